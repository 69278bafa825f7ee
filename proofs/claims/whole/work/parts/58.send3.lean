/-! ## the class: send, all cases -/
theorem cs_13 {q : Int × (Int → Int)} {d : Nat} {σ : zS} {N n W l b x3 : Int} {g : Int → Int} {B : Int} (hB : B = 10 + 265 * l) (hl : 0 ≤ l) (hl4 : l < 4) (hb : W + 23 ≤ b) (hI : zIL N g B) (h : zLC n σ.1 b (kF1 g l B) B) (hG : zGC σ.1 W (kF1 g l B)) (g60 : kF1 g l B 8 ≤ 60) (hw : kWhat g B = 1 ∨ kWhat g B = 3) : ∃ f2 pl, zD (true, q) (d + 2) zc_Wor_send (zat zc_Wor_send 69) [(18, W, 0), (0, l, 0), (13, b, 0), (0, x3, 0), (0, 0, 0), (2, 0, 0), (2, 0, 0)] [] σ = some ((0, pl, 0), (f2, σ.2)) ∧ zLC n f2 b (kF2 g l B) B ∧ zGC f2 W (kF2 g l B) ∧ (∀ i, 0 ≤ i → i < 10 → f2 (W + 22) i = rFact (kF2 g l B) l (kLen g l B) (kF1 g l B (B + 9)) (if kWhat g B = 1 ∨ kWhat g B = 3 then 1 else 0) i) ∧ (kWhat g B = 0 → pl = -1) ∧ (kWhat g B ≠ 0 → 0 ≤ pl ∧ pl < kF2 g l B (B + 7) ∧ ∀ c, 0 ≤ c → c < 3 → kF2 g l B (B + (17 + 4 * pl + c)) = kRow g l B c) ∧ zFW W b σ.1 f2 := by
  have hB1 : 10 ≤ B := by omega
  have hB2 : B + 265 ≤ 1070 := by omega
  have h13 := kWhat_13 hI hw
  have iG := zLI_kF1 (l := l) hB1 hB2 hI
  have w0 : kWhat g B ≠ 2 := by omega
  have eF : kF2 g l B = rHand (kF1 g l B) B := by
    unfold kF2
    rw [if_neg w0, if_pos (by omega)]
  have e0 : kF1 g l B (B + 0) = 2 := (kF1_out (by omega) (by omega) (by omega) (by omega)).trans h13.2
  have e7 : kF1 g l B (B + 7) = g (B + 7) := kF1_out (by omega) (by omega) (by omega) (by omega)
  have eR : ∀ c, kRow g l B c = kF1 g l B (B + (17 + 4 * kF1 g l B (B + 8) + c)) := by
    intro c
    unfold kRow
    rw [if_neg w0]
  have eL : kLen g l B = kF1 g l B (B + (17 + 4 * kF1 g l B (B + 8) + 1)) := by
    unfold kLen
    rw [if_neg (by omega), eR]
  have hh := iG.2.2.1.1
  obtain ⟨f2, r, h2, hf, fr⟩ := cs_hand (q := q) (d := d) (x3 := x3) hB hb iG h hG.2.2.1 e0 (by omega)
  have h8 := iG.1.2.2.2.2.2.2.2.2.1
  have ho : ∀ j, j ≠ B + 8 → j ≠ B + 9 → j ≠ B + (17 + 4 * kF1 g l B (B + 8) + 3) → rHand (kF1 g l B) B j = kF1 g l B j := fun j a1 a2 a3 => rHand_out h8.1 h8.2 a1 a2 a3
  refine ⟨f2, kF1 g l B (B + 8), r, ?_, ?_, ?_, fun z => by omega, fun _ => ⟨h8.1, ?_, ?_⟩, fun o k a1 a2 a3 a4 => fr o k a1 a4⟩
  · rw [eF]
    exact h2
  · rw [eF]
    refine zGC_fr (fun k => fr W k (by omega) (by omega)) (fun k => fr _ k (by omega) (by omega)) (fun k => fr _ k (by omega) (by omega)) (fun j hj => ho j (by omega) (by omega) (by omega)) g60 hG
  · intro i i0 i1
    rw [hf i i0 i1, eL, if_pos hw, eF]
    subst hB
    exact congrFun (rFact_ne (ho _ (by omega) (by omega) (by omega)).symm (ho _ (by omega) (by omega) (by omega)).symm (ho _ (by omega) (by omega) (by omega)).symm (ho _ (by omega) (by omega) (by omega)).symm (ho _ (by omega) (by omega) (by omega)).symm) i
  · rw [eF, ho _ (by omega) (by omega) (by omega)]
    omega
  · intro c c0 c3
    rw [eR, eF]
    exact ho _ (by omega) (by omega) (by omega)
theorem cs_0 {q : Int × (Int → Int)} {d : Nat} {σ : zS} {N n W l b x3 x4 : Int} {g : Int → Int} {B : Int} (hB : B = 10 + 265 * l) (hb : W + 23 ≤ b) (hI : zIL N g B) (h : zLC n σ.1 b g B) (hG : zGC σ.1 W g) (g60 : g 8 ≤ 60) (hw : kWhat g B = 0) (hn : g (B + 0) ≠ 2 ∨ g (B + 7) = 0) : ∃ f2 pl, zD (true, q) (d + 2) zc_Wor_send (zat zc_Wor_send 69) [(18, W, 0), (0, l, 0), (13, b, 0), (0, x3, 0), (0, x4, 0), (2, 0, 0), (2, 0, 0)] [] σ = some ((0, pl, 0), (f2, σ.2)) ∧ zLC n f2 b (kF2 g l B) B ∧ zGC f2 W (kF2 g l B) ∧ (∀ i, 0 ≤ i → i < 10 → f2 (W + 22) i = rFact (kF2 g l B) l (kLen g l B) (kF1 g l B (B + 9)) (if kWhat g B = 1 ∨ kWhat g B = 3 then 1 else 0) i) ∧ (kWhat g B = 0 → pl = -1) ∧ (kWhat g B ≠ 0 → 0 ≤ pl ∧ pl < kF2 g l B (B + 7) ∧ ∀ c, 0 ≤ c → c < 3 → kF2 g l B (B + (17 + 4 * pl + c)) = kRow g l B c) ∧ zFW W b σ.1 f2 := by
  have h9 := hI.1.2.2.2.2.2.2.2.2.2.1
  obtain ⟨f2, r, h2, hf, fr⟩ := cs_none (q := q) (d := d) (x3 := x3) (x4 := x4) hB hb h hG.2.2.1 (by omega) hn
  have eF : kF2 g l B = g := by
    unfold kF2
    rw [if_neg (by omega), if_neg (by omega)]
  have eF1 : kF1 g l B = g := by
    unfold kF1
    rw [if_neg (by omega)]
  have eL : kLen g l B = 0 := by
    unfold kLen
    rw [if_pos hw]
  refine ⟨f2, -1, r, ?_, ?_, ?_, fun _ => rfl, fun z => absurd hw z, fun o k a1 a2 a3 a4 => fr o k a4⟩
  · rw [eF]
    exact h2
  · rw [eF]
    exact zGC_fr (fun k => fr W k (by omega)) (fun k => fr _ k (by omega)) (fun k => fr _ k (by omega)) (fun _ _ => rfl) g60 hG
  · rw [eF, eF1, eL, if_neg (by omega)]
    exact hf
theorem c_send {q : Int × (Int → Int)} {d : Nat} {σ : zS} {N n W l b : Int} {g : Int → Int} {B : Int} (hB : B = 10 + 265 * l) (hl : 0 ≤ l) (hl4 : l < 4) (hb : W + 23 ≤ b) (n4 : n ≤ 4) (hI : zIL N g B) (h : zLC n σ.1 b g B) (hG : zGC σ.1 W g) (g0 : 0 ≤ g 8) (g60 : g 8 ≤ 60) : ∃ f2 pl, zM (true, q) (d + 3) 122 [(18, W, 0), (0, l, 0), (13, b, 0)] σ = some ((0, pl, 0), (f2, σ.2)) ∧ zLC n f2 b (kF2 g l B) B ∧ zGC f2 W (kF2 g l B) ∧ (∀ i, 0 ≤ i → i < 10 → f2 (W + 22) i = rFact (kF2 g l B) l (kLen g l B) (kF1 g l B (B + 9)) (if kWhat g B = 1 ∨ kWhat g B = 3 then 1 else 0) i) ∧ (kWhat g B = 0 → pl = -1) ∧ (kWhat g B ≠ 0 → 0 ≤ pl ∧ pl < kF2 g l B (B + 7) ∧ ∀ c, 0 ≤ c → c < 3 → kF2 g l B (B + (17 + 4 * pl + c)) = kRow g l B c) ∧ zFW W b σ.1 f2 := by
  obtain ⟨h_0, h_1, h_2, h_3, h_4, h_5, h_6, h_7, h_8, h_9, h_10, h_11, h_12, h_13, h_14, h_15, h_16⟩ := id hI.1
  have hB1 : 10 ≤ B := by omega
  have hB2 : B + 265 ≤ 1070 := by omega
  have f4 := zc_f4 h
  have f11 := zc_f11 h
  have k1 := h.2.1
  obtain ⟨w1, w2, w3, w4, w5, w6⟩ := kWhat_c (g := g) (B := B)
  by_cases hs : g (B + 0) = 2
  · by_cases h9 : g (B + 9) = 1
    · have hw := w2 hs h9
      have eF1 : kF1 g l B = g := by
        unfold kF1
        rw [if_neg (by omega)]
      obtain ⟨f2, pl, r, p⟩ := cs_13 (q := q) (d := d + 1) (x3 := 0) hB hl hl4 hb hI (by rw [eF1]; exact h) (by rw [eF1]; exact hG) (by rw [eF1]; exact g60) (Or.inl hw)
      refine ⟨f2, pl, ?_, p⟩
      rw [ze_Wor_send, zb_Wor_send_0, if_neg (by omega), zb_Wor_send_4, if_pos (by omega), zb_Wor_send_9, if_pos rfl, zb_Wor_send_18, if_pos rfl, zb_Wor_send_51, if_pos rfl]
      exact r
    · have hfit := c_fitsR (q := q) (d := d) hI.1 hI.2.1 h
      by_cases hq : 0 < g (B + 6) ∧ rFits g B = true
      · have hw := w3 hs h9 hq.1 hq.2
        rw [if_pos hq] at hfit
        obtain ⟨n0, _, k8, _, _, _⟩ := kWhat_2 hI.1 hw
        obtain ⟨f2, r, h2, hf, fr⟩ := cs_new (q := q) (d := d + 1) (x3 := 1) hB hl hb n4 hI h hG.2.2.1 hw
        have eF : kF2 g l B = rNew g B := by
          unfold kF2
          rw [if_pos hw]
        have eF1 : kF1 g l B = g := by
          unfold kF1
          rw [if_neg (by omega)]
        have eR : ∀ c, kRow g l B c = rNew g B (B + (17 + 4 * g (B + 7) + c)) := by
          intro c
          unfold kRow
          rw [if_pos hw]
        have eL : kLen g l B = g (B + (73 + 2 * 0 + 1)) := by
          unfold kLen
          rw [if_neg (by omega), eR, rNew_row hI.1 hw (by decide), if_neg (by decide), if_pos rfl]
        refine ⟨f2, g (B + 7), ?_, ?_, ?_, ?_, fun z => by omega, fun _ => ⟨h_7.1, ?_, ?_⟩, fun o k a1 a2 a3 a4 => fr o k a1 a4⟩
        · rw [ze_Wor_send, zb_Wor_send_0, if_neg (by omega), zb_Wor_send_4, if_neg (by omega), zb_Wor_send_7, if_neg (by decide), zb_Wor_send_13, hfit, zK_i, zb_Wor_send_15, if_neg (by decide), zb_Wor_send_16, if_neg (by decide)]
          exact r
        · rw [eF]
          exact h2
        · rw [eF]
          exact zGC_fr (fun k => fr W k (by omega) (by omega)) (fun k => fr _ k (by omega) (by omega)) (fun k => fr _ k (by omega) (by omega)) (fun j hj => rNew_out n0 h_6.2 h_7.1 k8 (by omega)) g60 hG
        · rw [eF, eF1, eL, if_neg (by omega)]
          exact hf
        · rw [eF, rNew_7 h_7.1 n0]
          omega
        · intro c c0 c3
          rw [eR, eF]
      · rw [if_neg hq] at hfit
        by_cases hq0 : 0 < g (B + 6)
        · have hw := w4 hs h9 hq0 (fun z => hq ⟨hq0, z⟩)
          have eF1 : kF1 g l B = rLog (zup1 (zup1 g (B + 9) 1) (B + 8) 0) l 1 (g (B + 7)) := by
            unfold kF1
            rw [if_pos hw]
          have k2 := h.2.2.1
          have h1 : zLC n (zup (zup σ.1 b 11 1) b 10 0) b (zup1 (zup1 g (B + 9) 1) (B + 8) 0) B := zu_10 (zu_11 h)
          have hG1 : zGC (zup (zup σ.1 b 11 1) b 10 0) W (zup1 (zup1 g (B + 9) 1) (B + 8) 0) := zGC_fr (fun k => by rw [zup_na (by omega), zup_na (by omega)]) (fun k => by rw [zup_na (by omega), zup_na (by omega)]) (fun k => by rw [zup_na (by omega), zup_na (by omega)]) (fun j hj => by rw [zup1_ne (by omega), zup1_ne (by omega)]) g60 hG
          have e4 : zup1 (zup1 g (B + 9) 1) (B + 8) 0 4 = g 4 := by rw [zup1_ne (by omega), zup1_ne (by omega)]
          have e8 : zup1 (zup1 g (B + 9) 1) (B + 8) 0 8 = g 8 := by rw [zup1_ne (by omega), zup1_ne (by omega)]
          have r1 : rLR (zup1 (zup1 g (B + 9) 1) (B + 8) 0) B := by
            have := (zLK_f8 (v := 0) (zLK_f9 (v := 1) (zLI_k hI) (by decide)) (by decide)).1
            exact this
          obtain ⟨fj, rj, hj, frj⟩ := c_joAdd (q := q) (d := d + 1) (σ := (zup (zup σ.1 b 11 1) b 10 0, σ.2)) (l := l) (w := 1) (v := g (B + 7)) (by rw [e8]; exact g0) (by rw [e8]; exact g60) hG1.2.2.2.2.2.2.2
          have hj1 : zLC n fj b (kF1 g l B) B := by
            rw [eF1]
            exact zLC_eq (fun j a1 a2 => rLog_out (by omega) (by omega)) r1 n4 (zLC_fr (fun o k _ _ => frj o k (by omega) (by omega)) h1)
          have hjG : zGC fj W (kF1 g l B) := by
            rw [eF1]
            obtain ⟨y1, y2, y3, y4, y5, y6, y7, _⟩ := hG1
            have fW : ∀ k, fj W k = zup (zup σ.1 b 11 1) b 10 0 W k := fun k => frj W k (by omega) (by omega)
            unfold zGC
            rw [fW, fW, fW, fW, fW, fW, fW, rLog_out (by omega) (by omega), rLog_out (by omega) (by omega), rLog_out (by omega) (by omega), rLog_out (by omega) (by omega), rLog_out (by omega) (by omega), rLog_out (by omega) (by omega), rLog_out (by omega) (by omega)]
            exact ⟨y1, y2, y3, y4, y5, y6, y7, hj⟩
          have g60' : kF1 g l B 8 ≤ 60 := by
            rw [eF1, rLog_8]
            split <;> omega
          obtain ⟨f2, pl, r, p1, p2, p3, p4, p5, p6⟩ := cs_13 (q := q) (d := d + 1) (σ := (fj, σ.2)) (x3 := 1) hB hl hl4 hb hI hj1 hjG g60' (Or.inr hw)
          refine ⟨f2, pl, ?_, p1, p2, p3, p4, p5, fun o k a1 a2 a3 a4 => ?_⟩
          · rw [ze_Wor_send, zb_Wor_send_0, if_neg (by omega), zb_Wor_send_4, if_neg (by omega), zb_Wor_send_7, if_neg (by decide), zb_Wor_send_13, hfit, zK_i, zb_Wor_send_15, if_pos rfl, zb_Wor_send_18, if_pos rfl, zb_Wor_send_51, if_neg (by decide), zb_Wor_send_53, if_neg (by omega), zb_Wor_send_57, ze_Lin_forceRound, zb_Lin_forceRound_0, zG2 (by decide) (by decide), zb_Lin_forceRound_3, zK_v, zb_Wor_send_59]
            show zK _ _ _ _ _ _ (zM (true, q) (d + 2) 113 [(11, W + 20, 0), (0, zup (zup σ.1 b 11 1) b 10 0 W 6, 0), (0, l, 0), (0, 1, 0), (0, zup (zup σ.1 b 11 1) b 10 0 (b + 6) 4, 0)] (zup (zup σ.1 b 11 1) b 10 0, σ.2)) = _
            rw [hG1.2.2.1, h1.2.2.1, zup1_ne (show B + 7 ≠ B + 8 by omega), zup1_ne (show B + 7 ≠ B + 9 by omega), rj, zK_v]
            exact r
          · have := p6 o k a1 a2 a3 a4
            rw [this]
            show fj o k = _
            rw [frj o k a2 a3]
            show zup (zup σ.1 b 11 1) b 10 0 o k = _
            rw [zup_na (by omega), zup_na (by omega)]
        · have run : zM (true, q) (d + 3) 122 [(18, W, 0), (0, l, 0), (13, b, 0)] σ = zD (true, q) (d + 3) zc_Wor_send (zat zc_Wor_send 69) [(18, W, 0), (0, l, 0), (13, b, 0), (0, 1, 0), (0, 0, 0), (2, 0, 0), (2, 0, 0)] [] σ := by
            rw [ze_Wor_send, zb_Wor_send_0, if_neg (by omega), zb_Wor_send_4, if_neg (by omega), zb_Wor_send_7, if_neg (by decide), zb_Wor_send_13, hfit, zK_i, zb_Wor_send_15, if_pos rfl, zb_Wor_send_18, if_pos rfl, zb_Wor_send_51, if_neg (by decide), zb_Wor_send_53, if_pos (by omega)]
          by_cases hk : 0 < g (B + 7)
          · have hw := w5 hs h9 hq0 hk
            have eF1 : kF1 g l B = g := by
              unfold kF1
              rw [if_neg (by omega)]
            obtain ⟨f2, pl, r, p⟩ := cs_13 (q := q) (d := d + 1) (x3 := 1) hB hl hl4 hb hI (by rw [eF1]; exact h) (by rw [eF1]; exact hG) (by rw [eF1]; exact g60) (Or.inl hw)
            exact ⟨f2, pl, run.trans r, p⟩
          · have hw := w6 hs h9 hq0 hk
            obtain ⟨f2, pl, r, p⟩ := cs_0 (q := q) (d := d + 1) (x3 := 1) (x4 := 0) hB hb hI h hG g60 hw (Or.inr (by omega))
            exact ⟨f2, pl, run.trans r, p⟩
  · have hw := w1 hs
    obtain ⟨f2, pl, r, p⟩ := cs_0 (q := q) (d := d + 1) (x3 := 0) (x4 := 0) hB hb hI h hG g60 hw (Or.inl hs)
    refine ⟨f2, pl, ?_, p⟩
    rw [ze_Wor_send, zb_Wor_send_0, if_pos (by omega), zb_Wor_send_9, if_pos rfl, zb_Wor_send_18, if_pos rfl, zb_Wor_send_51, if_pos rfl]
    exact r
