/-! ## the class: begins anew, proves itself, the fewest -/
theorem c_beginAnew' {q : Int × (Int → Int)} {d : Nat} {σ : zS} {n b : Int} {g : Int → Int} {B : Int} (n4 : n ≤ 4) (h_2 : 1 ≤ g (B + 2) ∧ g (B + 2) ≤ 4) (h_7 : 0 ≤ g (B + 7) ∧ g (B + 7) ≤ 8) (h_6 : 0 ≤ g (B + 6) ∧ g (B + 6) ≤ 96) (h : zLC n σ.1 b g B) : ∃ f2, zM (true, q) (d + 1) 5 [(13, b, 0)] σ = some ((9, 0, 0), (f2, σ.2)) ∧ zLC n f2 b (rAnew g B) B ∧ zFb b σ.1 f2 := by
  refine ⟨zfill (zfill (zup (zup (zup (zup (zup (zup (zup (zup (zup σ.1 b 12 0) b 13 0) b 10 0) b 14 0) b 15 0) b 16 0) b 17 0) b 18 0) b 11 0) (b + 12) 0 4) (b + 17) (-1) 4, ?_, ?_, ?_⟩
  ·
    rw [ze_Lin_beginAnew, zb_Lin_beginAnew_0, zG2 (by omega) (by omega), zb_Lin_beginAnew_27]
    try simp (disch := omega) only [Int.reduceAdd, Int.add_assoc, Int.zero_add]
    rw [s_clearRow (by omega) (by omega), zK_v, zb_Lin_beginAnew_32]
    try simp (disch := omega) only [Int.reduceAdd, Int.add_assoc, Int.zero_add]
    rw [s_clearRow (by omega) (by omega), zK_v, zb_Lin_beginAnew_36]
  · obtain ⟨h1, h2, h3, h4, h5, h6, h7⟩ := h
    refine ⟨fun c c0 c1 => ?_, ?_, ?_, fun k c k0 k1 c0 c1 => ?_, fun k c k0 k1 c0 c1 => ?_, fun k k0 k1 => ?_, fun k k0 k1 => ?_⟩
    · by_cases c10 : c < 10
      · rw [rAnew_lo (by unfold zfm; split <;> omega), ← h1 c c0 c1]
        simp (disch := omega) only [zfill_na, zup_nk]
      · rw [rAnew_mid (by unfold zfm; split <;> omega)]
        rcases (by omega : c = 10 ∨ c = 11 ∨ c = 12 ∨ c = 13 ∨ c = 14 ∨ c = 15 ∨ c = 16 ∨ c = 17 ∨ c = 18) with rfl | rfl | rfl | rfl | rfl | rfl | rfl | rfl | rfl <;> simp (disch := omega) only [zfill_na, zup_nk, zupE]
    · rw [rAnew_lo (by omega), ← h2]
      simp (disch := omega) only [zfill_na, zup_na]
    · rw [rAnew_lo (by omega), ← h3]
      simp (disch := omega) only [zfill_na, zup_na]
    · rw [rAnew_lo (by omega)] at k1
      rw [rAnew_lo (by omega), ← h4 k c k0 k1 c0 c1]
      simp (disch := omega) only [zfill_na, zup_na]
    · rw [rAnew_lo (by omega)] at k1
      rw [rAnew_out (by omega), ← h5 k c k0 k1 c0 c1]
      simp (disch := omega) only [zfill_na, zup_na]
    · rw [rAnew_air (by omega), rAnew_air (by omega), rAnew_air (by omega), rAnew_air (by omega), rAnew_air (by omega)]
      refine ⟨?_, fun z => absurd rfl z, fun z => absurd z (by decide)⟩
      rw [zfill_na (by omega), zfill_in rfl (by omega) (by omega)]
    · rw [rAnew_lo (by omega)] at k1
      rw [rAnew_rep (by omega), zfill_in rfl (by omega) (by omega)]
  · exact zFb_trans (zFb_up (by omega)) (zFb_trans (zFb_up (by omega)) (zFb_trans (zFb_up (by omega)) (zFb_trans (zFb_up (by omega)) (zFb_trans (zFb_up (by omega)) (zFb_trans (zFb_up (by omega)) (zFb_trans (zFb_up (by omega)) (zFb_trans (zFb_up (by omega)) (zFb_trans (zFb_up (by omega)) (zFb_trans (zFb_fi (by omega)) (zFb_fi (by omega)))))))))))
theorem rAnew_else {g : Int → Int} {B j : Int} (h : j < B + 8 ∨ (B + 17 ≤ j ∧ j < B + 49) ∨ B + 73 ≤ j) : rAnew g B j = g j := by
  by_cases c : B + 73 ≤ j
  · exact rAnew_out (by omega)
  · have := rAnew_lo (g := g) (B := B) (j := j - B) (by omega)
    rw [show B + (j - B) = j by omega] at this
    exact this
theorem rAnew_congr {g h : Int → Int} {B : Int} (e : ∀ j, (j < B + 8 ∨ B + 17 ≤ j) → g j = h j) : rAnew g B = rAnew h B := by
  funext j
  by_cases c : B + 8 ≤ j ∧ j < B + 73 ∧ ¬(B + 17 ≤ j ∧ j < B + 49)
  · have a1 := fun (g : Int → Int) (z : 8 ≤ j - B ∧ j - B < 17) => rAnew_mid (g := g) (B := B) (j := j - B) z
    have a2 := fun (g : Int → Int) (z : 49 ≤ j - B ∧ j - B < 69) => rAnew_air (g := g) (B := B) (j := j - B) z
    have a3 := fun (g : Int → Int) (z : 69 ≤ j - B ∧ j - B < 73) => rAnew_rep (g := g) (B := B) (j := j - B) z
    rw [show B + (j - B) = j by omega] at a1 a2 a3
    by_cases c1 : j - B < 17
    · rw [a1 g (by omega), a1 h (by omega)]
    · by_cases c2 : j - B < 69
      · rw [a2 g (by omega), a2 h (by omega)]
      · rw [a3 g (by omega), a3 h (by omega)]
  · rw [rAnew_else (by omega), rAnew_else (by omega)]
    exact e j (by omega)
theorem zGC_b {f f2 : Int → Int → Int} {W b : Int} {g : Int → Int} (hb : W + 23 ≤ b) (fr : zFb b f f2) (g60 : g 8 ≤ 60) (h : zGC f W g) : zGC f2 W g := zGC_fr (fun k => fr _ _ (by omega)) (fun k => fr _ _ (by omega)) (fun k => fr _ _ (by omega)) (fun _ _ => rfl) g60 h
theorem zGC_g {f : Int → Int → Int} {W : Int} {g g2 : Int → Int} (e : ∀ j, (j < 10 ∨ (1070 ≤ j ∧ j < 1310)) → g2 j = g j) (g60 : g 8 ≤ 60) (h : zGC f W g) : zGC f W g2 := zGC_fr (fun _ => rfl) (fun _ => rfl) (fun _ => rfl) e g60 h
theorem c_log {q : Int × (Int → Int)} {d : Nat} {σ : zS} {n W l b w v t : Int} {g : Int → Int} {B : Int} (hB1 : 10 ≤ B) (hB2 : B + 265 ≤ 1070) (hb : W + 23 ≤ b) (n4 : n ≤ 4) (hr : rLR g B) (g0 : 0 ≤ g 8) (g60 : g 8 ≤ 60) (ht : t = g 4) (h : zLC n σ.1 b g B) (hG : zGC σ.1 W g) : ∃ f2, zM (true, q) (d + 1) 113 [(11, W + 20, 0), (0, t, 0), (0, l, 0), (0, w, 0), (0, v, 0)] σ = some ((9, 0, 0), (f2, σ.2)) ∧ zLC n f2 b (rLog g l w v) B ∧ zGC f2 W (rLog g l w v) ∧ ∀ o k, o ≠ W + 20 → o ≠ W + 21 → f2 o k = σ.1 o k := by
  subst ht
  obtain ⟨y1, y2, y3, y4, y5, y6, y7, y8⟩ := hG
  obtain ⟨fj, rj, hj, frj⟩ := c_joAdd (q := q) (d := d) (l := l) (w := w) (v := v) g0 g60 y8
  refine ⟨fj, rj, zLC_eq (fun j a1 a2 => rLog_out (by omega) (by omega)) hr n4 (zLC_fr (fun o k _ _ => frj o k (by omega) (by omega)) h), ?_, frj⟩
  have fW : ∀ k, fj W k = σ.1 W k := fun k => frj W k (by omega) (by omega)
  unfold zGC
  rw [fW, fW, fW, fW, fW, fW, fW, rLog_out (by omega) (by omega), rLog_out (by omega) (by omega), rLog_out (by omega) (by omega), rLog_out (by omega) (by omega), rLog_out (by omega) (by omega), rLog_out (by omega) (by omega), rLog_out (by omega) (by omega)]
  exact ⟨y1, y2, y3, y4, y5, y6, y7, hj⟩
theorem c_prove {q : Int × (Int → Int)} {d : Nat} {σ : zS} {N n W l b a x5 : Int} {g : Int → Int} {B : Int} (hB1 : 10 ≤ B) (hB2 : B + 265 ≤ 1070) (hb : W + 23 ≤ b) (n4 : n ≤ 4) (hI : zIL N g B) (hp : g (B + 15) ≤ g (B + 14)) (g0 : 0 ≤ g 8) (g60 : g 8 ≤ 60) (h : zLC n σ.1 b g B) (hG : zGC σ.1 W g) (h5 : x5 = 0 ∨ x5 = 1) : ∃ f2, zM (true, q) (d + 2) 127 [(18, W, 0), (0, l, 0), (13, b, 0), (0, x5, 0)] σ = some ((9, 0, 0), (f2, σ.2)) ∧ zLC n f2 b (rProv g l B x5) B ∧ zGC f2 W (rProv g l B x5) ∧ zFX W b a σ.1 f2 := by
  obtain ⟨h_0, h_1, h_2, h_3, h_4, h_5, h_6, h_7, h_8, h_9, h_10, h_11, h_12, h_13, h_14, h_15, h_16⟩ := id hI.1
  have f16 := zc_f16 h
  have f17 := zc_f17 h
  have f18 := zc_f18 h
  have h1 : zLC n (zup (zup σ.1 b 16 (g (B + 14) + 1)) b 17 (g (B + 15) + x5)) b (rPr1 g B x5) B := by
    unfold rPr1
    rw [zup1_comm (by omega)]
    exact zu_17 (zu_16 h)
  have fr1 : zFb b σ.1 (zup (zup σ.1 b 16 (g (B + 14) + 1)) b 17 (g (B + 15) + x5)) := zFb_trans (zFb_up (by omega)) (zFb_up (by omega))
  have e1g : ∀ j, (j < 10 ∨ (1070 ≤ j ∧ j < 1310)) → rPr1 g B x5 j = g j := fun j hj => by
    unfold rPr1
    rw [zup1_ne (by omega), zup1_ne (by omega)]
  have G1 : zGC (zup (zup σ.1 b 16 (g (B + 14) + 1)) b 17 (g (B + 15) + x5)) W (rPr1 g B x5) := zGC_g e1g g60 (zGC_b hb fr1 g60 hG)
  have e1 : ∀ j, (j < 14 ∨ 16 ≤ j) → rPr1 g B x5 (B + j) = g (B + j) := fun j _ => by
    unfold rPr1
    rw [zup1_ne (by omega), zup1_ne (by omega)]
  have e115 : rPr1 g B x5 (B + 15) = g (B + 15) + x5 := by
    unfold rPr1
    rw [zup1_ne (by omega), zup1_eq rfl]
  have run : zM (true, q) (d + 2) 127 [(18, W, 0), (0, l, 0), (13, b, 0), (0, x5, 0)] σ = if 8 ≤ g (B + 14) + 1 then zD (true, q) (d + 2) zc_Wor_prove (zat zc_Wor_prove 21) [(18, W, 0), (0, l, 0), (13, b, 0), (0, x5, 0), (2, 0, 0)] [] (zup (zup σ.1 b 16 (g (B + 14) + 1)) b 17 (g (B + 15) + x5), σ.2) else zD (true, q) (d + 2) zc_Wor_prove (zat zc_Wor_prove 20) [(18, W, 0), (0, l, 0), (13, b, 0), (0, x5, 0), (2, 0, 0)] [] (zup (zup σ.1 b 16 (g (B + 14) + 1)) b 17 (g (B + 15) + x5), σ.2) := by
    rcases h5 with rfl | rfl
    · rw [ze_Wor_prove, zb_Wor_prove_0, if_pos rfl, zb_Wor_prove_13]
      simp (disch := omega) only [zup_nk, zupE, zw_id, f16, f17]
    · rw [ze_Wor_prove, zb_Wor_prove_0, if_neg (by decide), zb_Wor_prove_11]
      simp (disch := omega) only [zup_nk, zupE, zw_id, f16, f17]
  rw [run]
  unfold rProv
  by_cases c8 : g (B + 14) + 1 < 8
  · rw [if_neg (by omega), if_pos c8, zb_Wor_prove_20]
    exact ⟨_, rfl, h1, G1, zFX_b fr1⟩
  · rw [if_pos (by omega), if_neg c8]
    have hr1 : rLR (rPr2 g B x5) B := by
      have hz : ∀ j, 0 ≤ j → j < 17 → j ≠ 14 → j ≠ 15 → rPr2 g B x5 (B + j) = g (B + j) := fun j _ _ _ _ => by
        unfold rPr2
        rw [zup1_ne (by omega), zup1_ne (by omega), e1 j (by omega)]
      have hz14 : rPr2 g B x5 (B + 14) = 0 := by unfold rPr2; rw [zup1_ne (by omega), zup1_eq rfl]
      have hz15 : rPr2 g B x5 (B + 15) = 0 := zup1_eq rfl
      unfold rLR
      rw [hz 0 (by decide) (by decide) (by decide) (by decide), hz 1 (by decide) (by decide) (by decide) (by decide), hz 2 (by decide) (by decide) (by decide) (by decide), hz 3 (by decide) (by decide) (by decide) (by decide), hz 4 (by decide) (by decide) (by decide) (by decide), hz 5 (by decide) (by decide) (by decide) (by decide), hz 6 (by decide) (by decide) (by decide) (by decide), hz 7 (by decide) (by decide) (by decide) (by decide), hz 8 (by decide) (by decide) (by decide) (by decide), hz 9 (by decide) (by decide) (by decide) (by decide), hz 10 (by decide) (by decide) (by decide) (by decide), hz 11 (by decide) (by decide) (by decide) (by decide), hz 12 (by decide) (by decide) (by decide) (by decide), hz 13 (by decide) (by decide) (by decide) (by decide), hz 16 (by decide) (by decide) (by decide) (by decide), hz14, hz15]
      exact ⟨h_0, h_1, h_2, h_3, h_4, h_5, h_6, h_7, h_8, h_9, h_10, h_11, h_12, h_13, by decide, by decide, h_16⟩
    have e2g : ∀ j, (j < 10 ∨ (1070 ≤ j ∧ j < 1310)) → rPr2 g B x5 j = g j := fun j hj => by
      unfold rPr2
      rw [zup1_ne (by omega), zup1_ne (by omega)]
      exact e1g j hj
    have s17 := zc_f17 h1
    have s18 : zup (zup σ.1 b 16 (g (B + 14) + 1)) b 17 (g (B + 15) + x5) b 18 = g (B + 16) := (zc_f18 h1).trans (e1 16 (by decide))
    rw [e115] at s17
    generalize zup (zup σ.1 b 16 (g (B + 14) + 1)) b 17 (g (B + 15) + x5) = s1 at *
    by_cases c2 : g (B + 15) + x5 < 2
    · rw [if_pos c2, zb_Wor_prove_21, if_neg (show ¬1 < s1 b 17 by omega), zb_Wor_prove_27]
      have ea : rAnew (zup1 (rPr2 g B x5) (B + 0) 2) B = rAnew (zup1 (rPr1 g B x5) (B + 0) 2) B := rAnew_congr (fun j hj => by
        by_cases cj : j = B + 0
        · rw [zup1_eq cj, zup1_eq cj]
        · unfold rPr2
          rw [zup1_ne cj, zup1_ne cj, zup1_ne (by omega), zup1_ne (by omega)])
      have hr0 : rLR (zup1 (rPr2 g B x5) (B + 0) 2) B := by
        obtain ⟨_, u1, u2, u3, u4, u5, u6, u7, u8, u9, u10, u11, u12, u13, u14, u15, u16⟩ := hr1
        unfold rLR
        rw [zup1_eq rfl, zup1_ne (show B + 1 ≠ B + 0 by omega), zup1_ne (show B + 2 ≠ B + 0 by omega), zup1_ne (show B + 3 ≠ B + 0 by omega), zup1_ne (show B + 4 ≠ B + 0 by omega), zup1_ne (show B + 5 ≠ B + 0 by omega), zup1_ne (show B + 6 ≠ B + 0 by omega), zup1_ne (show B + 7 ≠ B + 0 by omega), zup1_ne (show B + 8 ≠ B + 0 by omega), zup1_ne (show B + 9 ≠ B + 0 by omega), zup1_ne (show B + 10 ≠ B + 0 by omega), zup1_ne (show B + 11 ≠ B + 0 by omega), zup1_ne (show B + 12 ≠ B + 0 by omega), zup1_ne (show B + 13 ≠ B + 0 by omega), zup1_ne (show B + 14 ≠ B + 0 by omega), zup1_ne (show B + 15 ≠ B + 0 by omega), zup1_ne (show B + 16 ≠ B + 0 by omega)]
        exact ⟨by decide, u1, u2, u3, u4, u5, u6, u7, u8, u9, u10, u11, u12, u13, u14, u15, u16⟩
      have hr01 : rLR (rAnew (zup1 (rPr1 g B x5) (B + 0) 2) B) B := by
        rw [← ea]
        exact rLR_anew hr0
      have hlo : rLR (zup1 (rPr1 g B x5) (B + 0) 2) B → True := fun _ => trivial
      obtain ⟨f3, r3, h3, fr3⟩ : ∃ f2, zM (true, q) (d + 1) 5 [(13, b, 0)] (zup s1 b 4 2, σ.2) = some ((9, 0, 0), (f2, σ.2)) ∧ zLC n f2 b (rAnew (zup1 (rPr1 g B x5) (B + 0) 2) B) B ∧ zFb b (zup s1 b 4 2) f2 := by
        have hb1 : (1 ≤ zup1 (rPr1 g B x5) (B + 0) 2 (B + 2)) ∧ zup1 (rPr1 g B x5) (B + 0) 2 (B + 2) ≤ 4 := by
          rw [zup1_ne (by omega), e1 2 (by decide)]
          exact h_2
        exact c_beginAnew' (d := d) (σ := (zup s1 b 4 2, σ.2)) n4 hb1 (by rw [zup1_ne (by omega), e1 7 (by decide)]; exact h_7) (by rw [zup1_ne (by omega), e1 6 (by decide)]; exact h_6) (zu_4 h1)
      have G3 : zGC f3 W (rAnew (zup1 (rPr1 g B x5) (B + 0) 2) B) := zGC_g (fun j hj => by rw [rAnew_else (by omega), zup1_ne (by omega)]) (by rw [e1g 8 (by omega)]; exact g60) (zGC_b hb (zFb_trans (zFb_up (by omega)) fr3) (by rw [e1g 8 (by omega)]; exact g60) G1)
      have t8 : rAnew (zup1 (rPr1 g B x5) (B + 0) 2) B 8 = g 8 := by rw [rAnew_else (by omega), zup1_ne (by omega), e1g 8 (by omega)]
      have t4 : f3 W 6 = rAnew (zup1 (rPr1 g B x5) (B + 0) 2) B 4 := G3.2.2.1
      obtain ⟨f4, r4, h4, G4, fr4⟩ := c_log (q := q) (d := d) (σ := (f3, σ.2)) (l := l) (w := 4) (v := g (B + 15) + x5) hB1 hB2 hb n4 hr01 (by rw [t8]; exact g0) (by rw [t8]; exact g60) t4 h3 G3
      rw [ea]
      refine ⟨f4, ?_, h4, G4, zFX_trans (zFX_b (zFb_trans fr1 (zFb_trans (zFb_up (by omega)) fr3))) (fun o k a1 a2 a3 a4 a5 a6 => fr4 o k a3 a4)⟩
      rw [r3, zK_v, zb_Wor_prove_32]
      show zK _ _ _ _ _ _ (zM (true, q) (d + 1) 113 [(11, W + 20, 0), (0, f3 W 6, 0), (0, l, 0), (0, 4, 0), (0, s1 b 17, 0)] (f3, σ.2)) = _
      rw [s17, r4, zK_v, zb_Wor_prove_40]
    · rw [if_neg c2, zb_Wor_prove_21, if_pos (show 1 < s1 b 17 by omega), zb_Wor_prove_41]
      have h2 : zLC n (zup (zup (zup s1 b 16 0) b 17 0) b 18 (g (B + 16) + 1)) b (zup1 (rPr2 g B x5) (B + 16) (g (B + 16) + 1)) B := zu_18 (zu_17 (zu_16 h1))
      have fr2 : zFb b s1 (zup (zup (zup s1 b 16 0) b 17 0) b 18 (g (B + 16) + 1)) := zFb_trans (zFb_up (by omega)) (zFb_trans (zFb_up (by omega)) (zFb_up (by omega)))
      simp (disch := omega) only [zup_nk, zupE, s18, zw_id]
      by_cases c3 : g (B + 16) + 1 < 3
      · rw [if_pos c3, if_pos c3, zb_Wor_prove_71]
        refine ⟨_, rfl, h2, zGC_g (fun j hj => by rw [zup1_ne (by omega), e2g j hj]) g60 (zGC_b hb (zFb_trans fr1 fr2) g60 hG), zFX_b (zFb_trans fr1 fr2)⟩
      · rw [if_neg c3, if_neg c3, zb_Wor_prove_57]
        have h3 := zu_4 (v := 0) (zu_18 (v := 0) h2)
        have fr3 := zFb_trans fr1 (zFb_trans fr2 (zFb_trans (zFb_up (c := 18) (v := 0) (show b ≤ b ∧ b < b + 18 by omega)) (zFb_up (c := 4) (v := 0) (show b ≤ b ∧ b < b + 18 by omega))))
        have G3 := zGC_g (g2 := zup1 (zup1 (zup1 (rPr2 g B x5) (B + 16) (g (B + 16) + 1)) (B + 16) 0) (B + 0) 0) (fun j hj => by rw [zup1_ne (by omega), zup1_ne (by omega), zup1_ne (by omega), e2g j hj]) g60 (zGC_b hb fr3 g60 hG)
        have hr3 : rLR (zup1 (zup1 (zup1 (rPr2 g B x5) (B + 16) (g (B + 16) + 1)) (B + 16) 0) (B + 0) 0) B := by
          obtain ⟨_, u1, u2, u3, u4, u5, u6, u7, u8, u9, u10, u11, u12, u13, u14, u15, u16⟩ := hr1
          rw [zup1_zup1]
          unfold rLR
          rw [zup1_eq rfl, zup1_ne (show B + 16 ≠ B + 0 by omega), zup1_eq rfl, zup1_ne (show B + 1 ≠ B + 0 by omega), zup1_ne (show B + 2 ≠ B + 0 by omega), zup1_ne (show B + 3 ≠ B + 0 by omega), zup1_ne (show B + 4 ≠ B + 0 by omega), zup1_ne (show B + 5 ≠ B + 0 by omega), zup1_ne (show B + 6 ≠ B + 0 by omega), zup1_ne (show B + 7 ≠ B + 0 by omega), zup1_ne (show B + 8 ≠ B + 0 by omega), zup1_ne (show B + 9 ≠ B + 0 by omega), zup1_ne (show B + 10 ≠ B + 0 by omega), zup1_ne (show B + 11 ≠ B + 0 by omega), zup1_ne (show B + 12 ≠ B + 0 by omega), zup1_ne (show B + 13 ≠ B + 0 by omega), zup1_ne (show B + 14 ≠ B + 0 by omega), zup1_ne (show B + 15 ≠ B + 0 by omega), zup1_ne (show B + 1 ≠ B + 16 by omega), zup1_ne (show B + 2 ≠ B + 16 by omega), zup1_ne (show B + 3 ≠ B + 16 by omega), zup1_ne (show B + 4 ≠ B + 16 by omega), zup1_ne (show B + 5 ≠ B + 16 by omega), zup1_ne (show B + 6 ≠ B + 16 by omega), zup1_ne (show B + 7 ≠ B + 16 by omega), zup1_ne (show B + 8 ≠ B + 16 by omega), zup1_ne (show B + 9 ≠ B + 16 by omega), zup1_ne (show B + 10 ≠ B + 16 by omega), zup1_ne (show B + 11 ≠ B + 16 by omega), zup1_ne (show B + 12 ≠ B + 16 by omega), zup1_ne (show B + 13 ≠ B + 16 by omega), zup1_ne (show B + 14 ≠ B + 16 by omega), zup1_ne (show B + 15 ≠ B + 16 by omega)]
          exact ⟨by decide, u1, u2, u3, u4, u5, u6, u7, u8, u9, u10, u11, u12, u13, u14, u15, by decide⟩
        have t8 : zup1 (zup1 (zup1 (rPr2 g B x5) (B + 16) (g (B + 16) + 1)) (B + 16) 0) (B + 0) 0 8 = g 8 := by rw [zup1_ne (by omega), zup1_ne (by omega), zup1_ne (by omega), e2g 8 (by omega)]
        obtain ⟨f4, r4, h4, G4, fr4⟩ := c_log (q := q) (d := d) (σ := (zup (zup (zup (zup (zup s1 b 16 0) b 17 0) b 18 (g (B + 16) + 1)) b 18 0) b 4 0, σ.2)) (l := l) (w := 3) (v := g (B + 15) + x5) hB1 hB2 hb n4 hr3 (by rw [t8]; exact g0) (by rw [t8]; exact g60) G3.2.2.1 h3 G3
        refine ⟨f4, ?_, h4, G4, zFX_trans (zFX_b fr3) (fun o k a1 a2 a3 a4 a5 a6 => fr4 o k a3 a4)⟩
        show zK _ _ _ _ _ _ (zM (true, q) (d + 1) 113 [(11, W + 20, 0), (0, zup (zup (zup (zup (zup s1 b 16 0) b 17 0) b 18 (g (B + 16) + 1)) b 18 0) b 4 0 W 6, 0), (0, l, 0), (0, 3, 0), (0, s1 b 17, 0)] (zup (zup (zup (zup (zup s1 b 16 0) b 17 0) b 18 (g (B + 16) + 1)) b 18 0) b 4 0, σ.2)) = _
        rw [s17, r4, zK_v, zb_Wor_prove_71]
