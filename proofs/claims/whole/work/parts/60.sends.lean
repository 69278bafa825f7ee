/-! ## the class: a line sends, in passLine -/
theorem zup_nka {f : Int → Int → Int} {a k v b j : Int} (h : b ≠ a ∨ j ≠ k) : zup f a k v b j = f b j := if_neg (fun z => by omega)
theorem kBad_01 {A : (Int → Int) → Int × Int} {g : Int → Int} {l B dr : Int} : kBad A g l B dr = 0 ∨ kBad A g l B dr = 1 := by
  unfold kBad
  split <;> split <;> omega
theorem c_sends {q : Int × (Int → Int)} {d : Nat} {σ : zS} {N W l b a dr x5 : Int} {g : Int → Int} {B : Int} {S : Int → (Int → Int) → Int} {h0 : Int → Int → Int} (hS : zSC S) (hA : zAskC q S a h0) (hh : ∀ o k, a ≤ o → o < a + 6 → σ.1 o k = h0 o k) (ha : a + 7 ≤ W) (hB : B = 10 + 265 * l) (hl : 0 ≤ l) (hl4 : l < 4) (hb : W + 23 ≤ b) (hI : zIL N g B) (h : zLC (g (B + 2) - 1) σ.1 b g B) (hG : zGC σ.1 W g) (g0 : 0 ≤ g 8) (g60 : g 8 ≤ 60) : ∃ f2 x6 x7, zD (true, q) (d + 5) zc_Wor_passLine (zat zc_Wor_passLine 24) [(18, W, 0), (0, l, 0), (12, a, 0), (0, dr, 0), (13, b, 0), (0, x5, 0), (2, 0, 0), (2, 0, 0)] [] σ = (if f2 b 4 ≠ 1 then zD (true, q) (d + 5) zc_Wor_passLine (zat zc_Wor_passLine 70) [(18, W, 0), (0, l, 0), (12, a, 0), (0, dr, 0), (13, b, 0), (0, x5, 0), (0, x6, 0), (0, x7, 0)] [] (f2, σ.2) else zD (true, q) (d + 5) zc_Wor_passLine (zat zc_Wor_passLine 64) [(18, W, 0), (0, l, 0), (12, a, 0), (0, dr, 0), (13, b, 0), (0, x5, 0), (0, x6, 0), (0, x7, 0)] [] (f2, σ.2)) ∧ zLC (g (B + 2)) f2 b (kSend (zLwA S) g l B dr) B ∧ zGC f2 W (kSend (zLwA S) g l B dr) ∧ zFX W b a σ.1 f2 := by
  have hB1 : 10 ≤ B := by omega
  have hB2 : B + 265 ≤ 1070 := by omega
  have hp := hI.1.2.2.1
  obtain ⟨f1, pl, r1, h1, hG1, hf1, p0, p1, fr1⟩ := c_send (q := q) (d := d + 1) hB hl hl4 hb (by omega) hI h hG g0 g60
  have hr2 := rLR_kF2 (l := l) hB1 hB2 hI.1
  have e2 : kF2 g l B (B + 2) = g (B + 2) := kF2_f hB1 hB2 hI.1 (by decide) (by decide)
  have f15 : f1 b 5 = kF2 g l B (B + 1) := zc_f5 h1
  have hh1 : ∀ o k, a ≤ o → o < a + 6 → f1 o k = h0 o k := fun o k a1 a2 => (fr1 o k (by omega) (by omega) (by omega) (by omega)).trans (hh o k a1 a2)
  obtain ⟨f2, r2, fr2⟩ := c_chanceOn (q := q) (d := d) (σ := (f1, σ.2)) (W := W) (b := b) (a := a) (φ := h0) hS hA hh1 ha (by omega) (by show 0 ≤ f1 b 5 ∧ f1 b 5 ≤ 100; rw [f15]; exact hr2.2.1) hf1
  have esp : zClamp (f1 b 5 + (zLwA S (rFact (kF2 g l B) l (kLen g l B) (kF1 g l B (B + 9)) (if kWhat g B = 1 ∨ kWhat g B = 3 then 1 else 0))).1) = kSp (zLwA S) g l B := by
    rw [f15]
    rfl
  have r2 : zM (true, q) (d + 4) 123 [(18, W, 0), (13, b, 0), (12, a, 0)] (f1, σ.2) = some ((0, kSp (zLwA S) g l B, 0), (f2, σ.2)) := by
    rw [r2]
    show some ((0, zClamp (f1 b 5 + _), 0), _) = _
    rw [esp]
  have hsp : kSp (zLwA S) g l B ≤ 100 := by
    unfold kSp
    exact zClamp_rng.2
  have h2 : zLC (g (B + 2) - 1) f2 b (kF2 g l B) B := zLC_fr (fun o k _ _ => fr2 o k (by omega)) h1
  have hG2 : zGC f2 W (kF2 g l B) := by
    have g8 : kF2 g l B 8 ≤ 60 := by
      unfold kF2 kF1
      split
      · obtain ⟨n0, _, k8, _, _, _⟩ := kWhat_2 hI.1 ‹_›
        rw [rNew_out n0 hI.1.2.2.2.2.2.2.1.2 hI.1.2.2.2.2.2.2.2.1.1 k8 (by omega)]
        exact g60
      · split
        · have k8 := (rLR_kF1 (l := l) hB1 hB2 hI.1).2.2.2.2.2.2.2.2.1
          unfold kF1 at k8
          rw [rHand_out k8.1 k8.2 (by omega) (by omega) (by omega)]
          split
          · rw [rLog_8]
            split <;> omega
          · exact g60
        · exact g60
    exact zGC_fr (fun k => fr2 W k (by omega)) (fun k => fr2 _ k (by omega)) (fun k => fr2 _ k (by omega)) (fun _ _ => rfl) g8 hG1
  have e10 : f2 W 10 = kF2 g l B 9 := hG2.2.2.2.2.2.2.1
  have r3 := c_isSpoiled (q := q) (d := d + 4) (σ := (f2, σ.2)) (W := W) (dr := dr) hsp
  have r3 : zM (true, q) (d + 4) 124 [(18, W, 0), (0, kSp (zLwA S) g l B, 0), (0, dr, 0)] (f2, σ.2) = some ((0, kBad (zLwA S) g l B dr, 0), (if dr = 0 then f2 else zup f2 W 10 (rSeed (kF2 g l B 9)), σ.2)) := by
    rw [r3]
    show some ((0, if dr = 0 then (if kSp (zLwA S) g l B = 100 then 1 else 0) else (if rDraw (f2 W 10) < kSp (zLwA S) g l B then 1 else 0), 0), (if dr = 0 then f2 else zup f2 W 10 (rSeed (f2 W 10)), σ.2)) = _
    rw [e10]
    rfl
  have h3 : zLC (g (B + 2) - 1) (if dr = 0 then f2 else zup f2 W 10 (rSeed (kF2 g l B 9))) b (kF3 g l B dr) B := by
    refine zLC_eq (fun j a1 a2 => kF3_out (by omega)) hr2 (by omega) ?_
    split
    · exact h2
    · exact zLC_fr (fun o k _ _ => zup_na (by omega)) h2
  have hG3 : zGC (if dr = 0 then f2 else zup f2 W 10 (rSeed (kF2 g l B 9))) W (kF3 g l B dr) := by
    unfold kF3
    split
    · exact hG2
    · obtain ⟨y1, y2, y3, y4, y5, y6, y7, y8⟩ := hG2
      unfold zGC
      rw [zup_nk (by decide), zup_nk (by decide), zup_nk (by decide), zup_nk (by decide), zup_nk (by decide), zup_nk (by decide), zupE rfl rfl, zup1_ne (by decide), zup1_ne (by decide), zup1_ne (by decide), zup1_ne (by decide), zup1_ne (by decide), zup1_ne (by decide), zup1_eq rfl]
      refine ⟨y1, y2, y3, y4, y5, y6, rfl, ?_⟩
      obtain ⟨z1, z2, z3, z4⟩ := y8
      refine ⟨by rw [zup_na (by omega), zup1_ne (by decide)]; exact z1, by rw [zup_na (by omega)]; exact z2, by rw [zup_na (by omega)]; exact z3, fun ago c a0 a1 c0 c1 => ?_⟩
      rw [zup1_ne (by decide)] at a1
      rw [zup_na (by omega), zup_na (by omega), zup1_ne (by omega)]
      exact z4 ago c a0 a1 c0 c1
  have fr3 : zFX W b a σ.1 (if dr = 0 then f2 else zup f2 W 10 (rSeed (kF2 g l B 9))) := by
    refine zFX_trans (zFX_w fr1) (fun o k a1 a2 a3 a4 a5 a6 => ?_)
    split
    · exact fr2 o k a6
    · rw [zup_na a2]
      exact fr2 o k a6
  have hr3 : rLR (kF3 g l B dr) B := rLR_eq0 (fun j _ _ => kF3_out (by omega)) hr2
  have ek2 : kF3 g l B dr (B + 2) = g (B + 2) := (kF3_out (by omega)).trans e2
  have k60 : kF3 g l B dr 8 ≤ 60 := by
    have := hG3.2.2.2.2.2.2.2
    have h9 : kF3 g l B dr 8 = kF2 g l B 8 := kF3_out (by omega)
    have g8 : kF2 g l B 8 ≤ 60 := by
      unfold kF2 kF1
      split
      · obtain ⟨n0, _, k8, _, _, _⟩ := kWhat_2 hI.1 ‹_›
        rw [rNew_out n0 hI.1.2.2.2.2.2.2.1.2 hI.1.2.2.2.2.2.2.2.1.1 k8 (by omega)]
        exact g60
      · split
        · have k8 := (rLR_kF1 (l := l) hB1 hB2 hI.1).2.2.2.2.2.2.2.2.1
          unfold kF1 at k8
          rw [rHand_out k8.1 k8.2 (by omega) (by omega) (by omega)]
          split
          · rw [rLog_8]
            split <;> omega
          · exact g60
        · exact g60
    omega
  have hbad := kBad_01 (A := zLwA S) (g := g) (l := l) (B := B) (dr := dr)
  have eP : ∀ c, 0 ≤ c → c < 3 → kWhat g B ≠ 0 → kF3 g l B dr (B + (17 + 4 * pl + c)) = kRow g l B c := fun c c0 c3 hw => (kF3_out (by have := p1 hw; omega)).trans ((p1 hw).2.2 c c0 c3)
  have e7 : kF3 g l B dr (B + 7) = kF2 g l B (B + 7) := kF3_out (by omega)
  have run : zD (true, q) (d + 5) zc_Wor_passLine (zat zc_Wor_passLine 24) [(18, W, 0), (0, l, 0), (12, a, 0), (0, dr, 0), (13, b, 0), (0, x5, 0), (2, 0, 0), (2, 0, 0)] [] σ = zD (true, q) (d + 5) zc_Wor_passLine (zat zc_Wor_passLine 36) [(18, W, 0), (0, l, 0), (12, a, 0), (0, dr, 0), (13, b, 0), (0, x5, 0), (0, pl, 0), (2, 0, 0)] [(0, kBad (zLwA S) g l B dr, 0)] (if dr = 0 then f2 else zup f2 W 10 (rSeed (kF2 g l B 9)), σ.2) := by
    rw [zb_Wor_passLine_24, r1, zK_i, zb_Wor_passLine_28, r2, zK_i, zb_Wor_passLine_34, r3, zK_i]
  rw [run]
  generalize (if dr = 0 then f2 else zup f2 W 10 (rSeed (kF2 g l B 9))) = f3 at h3 hG3 fr3 ⊢
  have f36 : f3 b 6 = g (B + 2) := (zc_f6 h3).trans ek2
  unfold kSend
  rw [ek2]
  have fin : ∀ f4 : Int → Int → Int, (∀ o k, (o < b + 12 ∨ b + 17 ≤ o) → f4 o k = f3 o k) → zGC f4 W (mput (kF3 g l B dr) (B + (49 + 5 * g (B + 2) - 5)) 5 (if kWhat g B = 0 then rSrow 1 0 0 (kBad (zLwA S) g l B dr) 0 else rSrow 2 (kRow g l B 0) (kRow g l B 2) (kBad (zLwA S) g l B dr) (kRow g l B 1))) ∧ zFX W b a σ.1 f4 := by
    intro f4 hf4
    exact ⟨zGC_fr (fun k => hf4 W k (by omega)) (fun k => hf4 _ k (by omega)) (fun k => hf4 _ k (by omega)) (fun j hj => mput_out (by omega)) k60 hG3, zFX_trans fr3 (fun o k a1 a2 a3 a4 a5 a6 => hf4 o k (by omega))⟩
  by_cases hw : kWhat g B = 0
  · have hpl := p0 hw
    subst hpl
    obtain ⟨y1, y2⟩ := fin (zup (zup f3 (b + 12) (g (B + 2) - 1) 1) (b + 16) (g (B + 2) - 1) (kBad (zLwA S) g l B dr)) (fun o k ho => by rw [zup_na (by omega), zup_na (by omega)])
    refine ⟨_, -1, kBad (zLwA S) g l B dr, ?_, ?_, y1, y2⟩
    · rw [zb_Wor_passLine_36, if_neg (by decide), zb_Wor_passLine_40]
      show zK _ _ _ _ _ _ (zM (true, q) (d + 4) 125 [(10, b + 11, 0), (0, zw (f3 b 6 - 1), 0), (0, kBad (zLwA S) g l B dr, 0)] (f3, σ.2)) = _
      rw [f36, zw_id (by omega) (by omega), c_putFiller (by omega) (by omega) hbad, zK_v, zb_Wor_passLine_48]
    · refine zLC_air hr3 ek2.symm (fun o k a1 a2 a3 => ?_) ?_ (fun _ => ?_) (fun z => ?_) h3
      · by_cases c : o = b + 12
        · subst c
          rw [zup_na (by omega), zup_nk (by omega)]
        · rw [zup_nka (by omega), zup_na (by omega)]
      · rw [if_pos hw, zup_na (by omega), zupE rfl rfl]
        rfl
      · rw [if_pos hw, zupE rfl rfl]
        rfl
      · rw [if_pos hw] at z
        have z : (1 : Int) = 2 := z
        omega
  · obtain ⟨pl0, pl1, _⟩ := p1 hw
    have pl8 : kF2 g l B (B + 7) ≤ 8 := hr2.2.2.2.2.2.2.2.1.2
    have v0 : f3 (b + 7) pl = kRow g l B 0 := (h3.2.2.2.1 pl 0 pl0 (by omega) (by decide) (by decide)).trans (eP 0 (by decide) (by decide) hw)
    have v1 : f3 (b + 8) pl = kRow g l B 1 := (h3.2.2.2.1 pl 1 pl0 (by omega) (by decide) (by decide)).trans (eP 1 (by decide) (by decide) hw)
    have v2 : f3 (b + 9) pl = kRow g l B 2 := (h3.2.2.2.1 pl 2 pl0 (by omega) (by decide) (by decide)).trans (eP 2 (by decide) (by decide) hw)
    obtain ⟨y1, y2⟩ := fin (zup (zup (zup (zup (zup f3 (b + 12) (g (B + 2) - 1) 2) (b + 13) (g (B + 2) - 1) (kRow g l B 0)) (b + 14) (g (B + 2) - 1) (kRow g l B 1)) (b + 15) (g (B + 2) - 1) (kRow g l B 2)) (b + 16) (g (B + 2) - 1) (kBad (zLwA S) g l B dr)) (fun o k ho => by rw [zup_na (by omega), zup_na (by omega), zup_na (by omega), zup_na (by omega), zup_na (by omega)])
    refine ⟨_, pl, kBad (zLwA S) g l B dr, ?_, ?_, y1, y2⟩
    · rw [zb_Wor_passLine_36, if_pos (by omega), zb_Wor_passLine_49]
      show zK _ _ _ _ _ _ (zM (true, q) (d + 4) 126 [(10, b + 11, 0), (0, zw (f3 b 6 - 1), 0), (16, b + 6, 8), (0, pl, 0), (0, kBad (zLwA S) g l B dr, 0)] (f3, σ.2)) = _
      rw [f36, zw_id (by omega) (by omega), c_putUnit (by omega) (by omega) pl0 (by omega) hbad, zK_v, zb_Wor_passLine_60]
      simp only [v0, v1, v2]
    · refine zLC_air hr3 ek2.symm (fun o k a1 a2 a3 => ?_) ?_ (fun _ => ?_) (fun _ => ⟨?_, ?_, ?_⟩) h3
      · rw [zup_nka (by omega), zup_nka (by omega), zup_nka (by omega), zup_nka (by omega), zup_nka (by omega)]
      · rw [if_neg hw, zup_na (by omega), zup_na (by omega), zup_na (by omega), zup_na (by omega), zupE rfl rfl]
        rfl
      · rw [if_neg hw, zupE rfl rfl]
        rfl
      · rw [if_neg hw, zup_na (by omega), zup_na (by omega), zup_na (by omega), zupE rfl rfl]
        rfl
      · rw [if_neg hw, zup_na (by omega), zup_na (by omega), zupE rfl rfl]
        rfl
      · rw [if_neg hw, zup_na (by omega), zupE rfl rfl]
        rfl
