/-! ## the other form: a tick -/
theorem l_sndE {q : Int × (Int → Int)} {d : Nat} {f : Int → Int → Int} {t : (Int → Int) × Nat × Nat × Nat × (Int → Int → Bool)} {g : Int → Int} {l dr x y p : Int} (hl : 0 ≤ l) (hl4 : l < 4) {s : Int → Int} (hs : ∀ i, 0 ≤ i → i < 5 → f 1472 i = s i) (p1 : 1 ≤ p) (p4 : p ≤ 4) (hp : g (10 + 265 * l + 2) = p) : ∀ (k : Nat) (i : Int), 0 ≤ i → i + k = 5 → zD (true, q) (d + 5) zc_M_sends (zat zc_M_sends 111) [(20, 1464, 0), (0, l, 0), (0, dr, 0), (0, x, 0), (0, y, 0), (0, i, 0)] [] (zrow f 1465 (mput g (10 + 265 * l + (49 + 5 * p - 5)) i s), t) = some ((9, 0, 0), (zrow f 1465 (mput g (10 + 265 * l + (49 + 5 * p - 5)) 5 s), t)) := by
  have ep : ∀ i, mput g (10 + 265 * l + (49 + 5 * p - 5)) i s (10 + 265 * l + 2) = p := fun i => (mput_out (by omega)).trans hp
  intro k
  induction k with
  | zero =>
    intro i h0 h1
    have : i = 5 := by omega
    subst this
    rw [zb_M_sends_111, if_pos (by omega), zb_M_sends_135]
  | succ k ih =>
    intro i h0 h1
    rw [zb_M_sends_111, if_neg (by omega), zb_M_sends_114, r_of (by omega) (by omega) (by omega) (by omega), zK_i, ep, zb_M_sends_122]
    simp only [Int.reduceAdd, zrow_ne (show (1472 : Int) ≠ 1465 by decide)]
    rw [zG2 (by omega) (by omega), hs i (by omega) (by omega), zw_id (show -2147483648 ≤ 5 * p by omega) (by omega), zw_id (show -2147483648 ≤ 49 + 5 * p by omega) (by omega), zw_id (show -2147483648 ≤ 49 + 5 * p - 5 by omega) (by omega), zw_id (show -2147483648 ≤ 49 + 5 * p - 5 + i by omega) (by omega), zb_M_sends_132, r_lays hl hl4 (by omega) (by omega), zK_v, mput_s h0 (by omega), zb_M_sends_133, zw_id (by omega) (by omega)]
    exact ih (i + 1) (by omega) (by omega)
theorem zClamp_rng {x : Int} : 0 ≤ zClamp x ∧ zClamp x ≤ 100 := by
  unfold zClamp
  split
  · omega
  · split <;> omega
theorem rFact_ne {g h : Int → Int} {l x y z : Int} (h7 : g (10 + 265 * l + 7) = h (10 + 265 * l + 7)) (h6 : g (10 + 265 * l + 6) = h (10 + 265 * l + 6)) (h12 : g (10 + 265 * l + 12) = h (10 + 265 * l + 12)) (h2 : g (10 + 265 * l + 2) = h (10 + 265 * l + 2)) (h4 : g 4 = h 4) : rFact g l x y z = rFact h l x y z := by
  unfold rFact
  rw [h7, h6, h12, h2, h4]
theorem l_sndD {q : Int × (Int → Int)} {d : Nat} {f : Int → Int → Int} {t : (Int → Int) × Nat × Nat × Nat × (Int → Int → Bool)} {g : Int → Int} {A : (Int → Int) → Int × Int} {w : Int → Int} {l dr : Int} (hl : 0 ≤ l) (hl4 : l < 4) (hr : rLR g (10 + 265 * l)) (f1 f2 : Int → Int → Int) (hfr : zFrA f1 f2) (hsp : f2 1464 18 = kSp A g l (10 + 265 * l)) (hz : zM (true, q) (d + 4) 150 [(20, 1464, 0), (0, l, 0), (0, kLen g l (10 + 265 * l), 0), (0, kF1 g l (10 + 265 * l) (10 + 265 * l + 9), 0), (0, if kWhat g (10 + 265 * l) = 1 ∨ kWhat g (10 + 265 * l) = 3 then 1 else 0, 0)] (zrow f1 1465 (kF2 g l (10 + 265 * l)), t) = some ((9, 0, 0), (zrow f2 1465 (kF2 g l (10 + 265 * l)), t))) : zD (true, q) (d + 5) zc_M_sends (zat zc_M_sends 78) [(20, 1464, 0), (0, l, 0), (0, dr, 0), (0, kWhat g (10 + 265 * l), 0), (0, kF1 g l (10 + 265 * l) (10 + 265 * l + 9), 0), (2, 0, 0)] [(0, kLen g l (10 + 265 * l), 0), (0, l, 0), (20, 1464, 0)] (zrow f1 1465 (kF2 g l (10 + 265 * l)), t) = zD (true, q) (d + 5) zc_M_sends (zat zc_M_sends 111) [(20, 1464, 0), (0, l, 0), (0, dr, 0), (0, kWhat g (10 + 265 * l), 0), (0, kF1 g l (10 + 265 * l) (10 + 265 * l + 9), 0), (0, 0, 0)] [] (zrow (zup f2 1472 3 (kBad A g l (10 + 265 * l) dr)) 1465 (kF3 g l (10 + 265 * l) dr), t) := by
  have h89 : zD (true, q) (d + 5) zc_M_sends (zat zc_M_sends 78) [(20, 1464, 0), (0, l, 0), (0, dr, 0), (0, kWhat g (10 + 265 * l), 0), (0, kF1 g l (10 + 265 * l) (10 + 265 * l + 9), 0), (2, 0, 0)] [(0, kLen g l (10 + 265 * l), 0), (0, l, 0), (20, 1464, 0)] (zrow f1 1465 (kF2 g l (10 + 265 * l)), t) = zD (true, q) (d + 5) zc_M_sends (zat zc_M_sends 89) [(20, 1464, 0), (0, l, 0), (0, dr, 0), (0, kWhat g (10 + 265 * l), 0), (0, kF1 g l (10 + 265 * l) (10 + 265 * l + 9), 0), (2, 0, 0)] [] (zrow f2 1465 (kF2 g l (10 + 265 * l)), t) := by
    rw [zb_M_sends_78]
    by_cases c1 : kWhat g (10 + 265 * l) = 1
    · rw [if_pos c1, zb_M_sends_85]
      rw [if_pos (Or.inl c1)] at hz
      rw [hz, zK_v]
    · rw [if_neg c1, zb_M_sends_82]
      by_cases c3 : kWhat g (10 + 265 * l) = 3
      · rw [if_neg (fun z => z c3), zb_M_sends_85]
        rw [if_pos (Or.inr c3)] at hz
        rw [hz, zK_v]
      · rw [if_pos c3, zb_M_sends_87]
        rw [if_neg (fun z => z.elim c1 c3)] at hz
        rw [hz, zK_v]
  have e18 : ∀ h, zrow f2 1465 h 1464 18 = kSp A g l (10 + 265 * l) := fun h => (congrFun (zrow_ne (by decide)) 18).trans hsp
  rw [h89, zb_M_sends_89]
  unfold kBad kF3
  by_cases c : dr = 0
  · rw [if_pos c, if_pos c, if_pos c, zb_M_sends_101]
    simp only [e18]
    by_cases c2 : kSp A g l (10 + 265 * l) = 100
    · rw [if_neg (fun z => z c2), zb_M_sends_105]
      simp only [Int.reduceAdd]
      rw [zG2 (by omega) (by omega), zrow_up (by decide), zb_M_sends_109, if_pos c2]
    · rw [if_pos c2, zb_M_sends_107]
      simp only [Int.reduceAdd]
      rw [zG2 (by omega) (by omega), zrow_up (by decide), zb_M_sends_109, if_neg c2]
  · rw [if_neg c, if_neg c, if_neg c, zb_M_sends_94, r_draw, zK_i, zb_M_sends_97]
    simp only [e18]
    by_cases c2 : rDraw (kF2 g l (10 + 265 * l) 9) < kSp A g l (10 + 265 * l)
    · rw [if_neg (by omega), zb_M_sends_100]
      simp only [Int.reduceAdd]
      rw [zG2 (by omega) (by omega), zrow_up (by decide), zb_M_sends_109, if_pos c2]
    · rw [if_pos (by omega), zb_M_sends_107]
      simp only [Int.reduceAdd]
      rw [zG2 (by omega) (by omega), zrow_up (by decide), zb_M_sends_109, if_neg c2]
theorem kF2_out {g : Int → Int} {l B j : Int} (hr : rLR g B) (hB : 10 ≤ B) (hB2 : B + 265 ≤ 1070) (h : j < 8 ∨ j = 9 ∨ 10 ≤ j) (h2 : j < B ∨ B + 265 ≤ j) (h3 : j < 1070 ∨ 1310 ≤ j) : kF2 g l B j = g j := by
  obtain ⟨h_0, h_1, h_2, h_3, h_4, h_5, h_6, h_7, h_8, h_9, h_10, h_11, h_12, h_13, h_14, h_15, h_16⟩ := id hr
  have i_8 := (rLR_kF1 (l := l) hB hB2 hr).2.2.2.2.2.2.2.2.1
  unfold kF2
  split
  · obtain ⟨n0, _, k8, _, _, _⟩ := kWhat_2 hr ‹_›
    have e6 : rNewA g B (B + 6) = g (B + 6) - 1 := zup1_eq rfl
    unfold rNew rNewT
    rw [zup1_ne (by omega), e6, msh_out (by omega)]
    unfold rNewA
    rw [zup1_ne (by omega), zup1_ne (by omega), zup1_ne (by omega), zup1_ne (by omega), zup1_ne (by omega), zup1_ne (by omega)]
  · split
    · rw [rHand_out i_8.1 i_8.2 (by omega) (by omega) (by omega), kF1_out (by omega) (by omega) (by omega) (by omega)]
    · rfl
theorem rNew_row {g : Int → Int} {B k : Int} (hr : rLR g B) (h : kWhat g B = 2) (hk : 0 ≤ k ∧ k < 4) : rNew g B (B + (17 + 4 * g (B + 7) + k)) = if k = 0 then g (B + (73 + 2 * 0 + 0)) else if k = 1 then g (B + (73 + 2 * 0 + 1)) else if k = 2 then g (B + 10) else 1 := by
  obtain ⟨h_0, h_1, h_2, h_3, h_4, h_5, h_6, h_7, h_8, h_9, h_10, h_11, h_12, h_13, h_14, h_15, h_16⟩ := id hr
  obtain ⟨n0, _, k8, _, _, _⟩ := kWhat_2 hr h
  have e6 : rNewA g B (B + 6) = g (B + 6) - 1 := zup1_eq rfl
  unfold rNew rNewT
  rw [zup1_ne (by omega), e6, msh_out (by omega)]
  unfold rNewA
  rw [zup1_ne (by omega), zup1_ne (by omega)]
  by_cases k0 : k = 0
  · subst k0
    rw [zup1_ne (by omega), zup1_ne (by omega), zup1_ne (by omega), zup1_eq rfl, if_pos rfl]
  · rw [if_neg k0]
    by_cases k1 : k = 1
    · subst k1
      rw [zup1_ne (by omega), zup1_ne (by omega), zup1_eq rfl, if_pos rfl]
    · rw [if_neg k1]
      by_cases k2 : k = 2
      · subst k2
        rw [zup1_ne (by omega), zup1_eq rfl, if_pos rfl]
      · have k3 : k = 3 := by omega
        subst k3
        rw [zup1_eq rfl, if_neg (by decide)]
/-- a line's lengths -/
def rLL (g : Int → Int) (B : Int) : Prop := (∀ k, 0 ≤ k → k < g (B + 7) → 1 ≤ g (B + (17 + 4 * k + 1)) ∧ g (B + (17 + 4 * k + 1)) ≤ 9) ∧ (∀ k, 0 ≤ k → k < g (B + 6) → 1 ≤ g (B + (73 + 2 * k + 1)) ∧ g (B + (73 + 2 * k + 1)) ≤ 9)
theorem kLen_rng {g : Int → Int} {l B : Int} (hr : rLR g B) (hL : rLL g B) (hh : g (B + 8) = 0 ∨ g (B + 8) < g (B + 7)) (hk : g (B + 7) = 0 → g (B + 9) = 0) (hB : 10 ≤ B) (hB2 : B + 265 ≤ 1070) : (kWhat g B = 0 → kLen g l B = 0) ∧ (kWhat g B ≠ 0 → 1 ≤ kLen g l B) ∧ 0 ≤ kLen g l B ∧ kLen g l B ≤ 9 := by
  obtain ⟨h_0, h_1, h_2, h_3, h_4, h_5, h_6, h_7, h_8, h_9, h_10, h_11, h_12, h_13, h_14, h_15, h_16⟩ := id hr
  unfold kLen
  split
  · omega
  · rename_i cw
    suffices h : 1 ≤ kRow g l B 1 ∧ kRow g l B 1 ≤ 9 by exact ⟨fun z => absurd z cw, fun _ => h.1, by omega, h.2⟩
    unfold kRow
    split
    · rw [rNew_row hr ‹_› (by decide), if_neg (by decide), if_pos rfl]
      exact hL.2 0 (by omega) (kWhat_2 hr ‹_›).1
    · rename_i c2
      have c0 := cw
      have e8 := kF1_8 (g := g) (l := l) hB hB2
      have h78 : g (B + 7) ≠ 0 := by
        intro h7
        unfold kWhat rNext at c0 c2
        split at c0
        · rename_i hs
          rw [if_pos hs] at c2
          have := hk h7
          rw [if_neg (by omega)] at c0 c2
          by_cases hq : 0 < g (B + 6)
          · rw [if_pos hq] at c0 c2
            have hL0 := hL.2 0 (by omega) hq
            have hf : rFits g B = true := by
              unfold rFits
              refine decide_eq_true ⟨by omega, ?_⟩
              have ez : zsum (fun k => g (B + (17 + 4 * k + 1))) (g (B + 7)).toNat 0 = 0 := by
                rw [h7]
                rfl
              omega
            rw [if_pos hf] at c2
            exact c2 rfl
          · rw [if_neg hq, if_neg (by omega)] at c0
            exact c0 rfl
        · exact c0 rfl
      have h8x : 0 ≤ kF1 g l B (B + 8) ∧ kF1 g l B (B + 8) < g (B + 7) := by
        rw [e8]
        split <;> omega
      rw [kF1_out (by omega) (by omega) (by omega) (by omega)]
      exact hL.1 _ h8x.1 h8x.2
theorem r_sends {q : Int × (Int → Int)} {d : Nat} {f : Int → Int → Int} {t : (Int → Int) × Nat × Nat × Nat × (Int → Int → Bool)} {g : Int → Int} {A : (Int → Int) → Int × Int} {w : Int → Int} {l dr : Int} (hA : zAsk q A w) (hw : zLawW w g) (hl : 0 ≤ l) (hl4 : l < 4) (hr : rLR g (10 + 265 * l)) (hL : rLL g (10 + 265 * l)) (hh : g (10 + 265 * l + 8) = 0 ∨ g (10 + 265 * l + 8) < g (10 + 265 * l + 7)) (hk : g (10 + 265 * l + 7) = 0 → g (10 + 265 * l + 9) = 0) (h4 : 0 ≤ g 4) (h49 : g 4 ≤ 9999) (g0 : 0 ≤ g 8) (g60 : g 8 ≤ 60) :
    ∃ f2, zM (true, q) (d + 61) 162 [(20, 1464, 0), (0, l, 0), (0, dr, 0)] (zrow f 1465 g, t) = some ((9, 0, 0), (zrow f2 1465 (kSend A g l (10 + 265 * l) dr), t)) ∧ zFr f f2 := by
  have hB : (10 : Int) ≤ 10 + 265 * l := by omega
  have hB2 : 10 + 265 * l + 265 ≤ 1070 := by omega
  have hn := kLen_rng (l := l) hr hL hh hk hB hB2
  have hr2 := rLR_kF2 (l := l) hB hB2 hr
  have h19 := (rLR_kF1 (l := l) hB hB2 hr).2.2.2.2.2.2.2.2.2.1
  obtain ⟨f1, hz1, hfr1, hv1⟩ := l_sndC (q := q) (d := d + 56) (f := zrow f 1472 (zup1 (mfil (f 1472) 0 5 0) 0 1)) (t := t) (g := g) (dr := dr) hl hl4 hr ⟨rfl, rfl, rfl, rfl⟩
  have hw2 : zLawW w (kF2 g l (10 + 265 * l)) := fun j hj => (kF2_out hr hB hB2 (by omega) (by omega) (by omega)).trans (hw j hj)
  obtain ⟨f2, hz2, hs2, _, hfr2⟩ := hA (kF2 g l (10 + 265 * l)) hw2 d f1 t l (kLen g l (10 + 265 * l)) (kF1 g l (10 + 265 * l) (10 + 265 * l + 9)) (if kWhat g (10 + 265 * l) = 1 ∨ kWhat g (10 + 265 * l) = 3 then 1 else 0) hl hl4 hn.2.2.1 hn.2.2.2 (by omega) (by split <;> omega) hr2 (by rw [kF2_out hr hB hB2 (by omega) (by omega) (by omega)]; exact h4) (by rw [kF2_out hr hB hB2 (by omega) (by omega) (by omega)]; exact h49)
  have hD := l_sndD (A := A) (w := w) (f := f) (d := d + 56) (dr := dr) hl hl4 hr f1 f2 hfr2 hs2 hz2
  have e2 : kF3 g l (10 + 265 * l) dr (10 + 265 * l + 2) = kF2 g l (10 + 265 * l) (10 + 265 * l + 2) := by
    unfold kF3
    split
    · rfl
    · rw [zup1_ne (by omega)]
  have hp := hr2.2.2.1
  have hsr : ∀ i, 0 ≤ i → i < 5 → zup f2 1472 3 (kBad A g l (10 + 265 * l) dr) 1472 i = (if kWhat g (10 + 265 * l) = 0 then rSrow 1 0 0 (kBad A g l (10 + 265 * l) dr) 0 else rSrow 2 (kRow g l (10 + 265 * l) 0) (kRow g l (10 + 265 * l) 2) (kBad A g l (10 + 265 * l) dr) (kRow g l (10 + 265 * l) 1)) i := by
    have fx : ∀ k, f2 1472 k = f1 1472 k := fun k => hfr2.1 1472 k (by decide) (by decide) (by omega)
    intro i i0 i5
    by_cases i3 : i = 3
    · subst i3
      rw [zupE rfl rfl]
      split <;> rfl
    · rw [zup_nk i3, fx]
      rcases (by omega : i = 0 ∨ i = 1 ∨ i = 2 ∨ i = 4) with rfl | rfl | rfl | rfl
      · split at hv1
        · rw [if_pos ‹_›]; exact hv1.1
        · rw [if_neg ‹_›]; exact hv1.1
      · split at hv1
        · rw [if_pos ‹_›]; exact hv1.2.1
        · rw [if_neg ‹_›]; exact hv1.2.1
      · split at hv1
        · rw [if_pos ‹_›]; exact hv1.2.2.1
        · rw [if_neg ‹_›]; exact hv1.2.2.1
      · split at hv1
        · rw [if_pos ‹_›]; exact hv1.2.2.2
        · rw [if_neg ‹_›]; exact hv1.2.2.2
  have hE := l_sndE (q := q) (d := d + 56) (t := t) (g := kF3 g l (10 + 265 * l) dr) (l := l) (dr := dr) (x := kWhat g (10 + 265 * l)) (y := kF1 g l (10 + 265 * l) (10 + 265 * l + 9)) hl hl4 hsr hp.1 hp.2 e2 5 0 (by omega) (by omega)
  rw [mput_0 (Int.le_refl 0)] at hE
  refine ⟨zup f2 1472 3 (kBad A g l (10 + 265 * l) dr), ?_, ?_⟩
  · refine (l_sndA (d := d + 56) hl hl4 hr (fun k a b => ⟨by have := hL.1 k a b; omega, (hL.1 k a b).2⟩) (fun a => ⟨by have := hL.2 0 (Int.le_refl 0) a; omega, (hL.2 0 (Int.le_refl 0) a).2⟩)).trans ((l_sndB (d := d + 56) hl hl4 g0 g60).trans (hz1.trans (hD.trans (hE.trans ?_))))
    unfold kSend
    rw [e2, show 10 + 265 * l + (49 + 5 * kF2 g l (10 + 265 * l) (10 + 265 * l + 2) - 5) = 10 + 265 * l + (49 + 5 * kF2 g l (10 + 265 * l) (10 + 265 * l + 2) - 5) from rfl]
  · refine zFr_trans (zFr_row (by omega) hfr1) (zFr_trans (zFrA_fr hfr2) ?_)
    exact ⟨fun o k h1 h2 h3 h4 h5 h6 => zup_na h4, fun z => zB3_fr (fun k _ _ => zup_na (by decide)) z⟩
