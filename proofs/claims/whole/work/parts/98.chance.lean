/-! ## chance, rests -/
theorem r_fill {q : Int × (Int → Int)} {d : Nat} {f : Int → Int → Int} {t : (Int → Int) × Nat × Nat × Nat × (Int → Int → Bool)} {g : Int → Int} {A : (Int → Int) → Int × Int} {w : Int → Int} {l : Int} (hA : zAsk q A w) (hw : zLawW w g) (hl : 0 ≤ l) (hl4 : l < 4) (hr : rLR g (10 + 265 * l)) (h4 : 0 ≤ g 4 ∧ g 4 ≤ 9999) : ∃ f2, zM (true, q) (d + 61) 211 [(20, 1464, 0), (0, l, 0)] (zrow f 1465 g, t) = some ((0, zClamp (g (10 + 265 * l + 1) + (A (rFact g l 0 (g (10 + 265 * l + 9)) 0)).1), 0), (zrow f2 1465 g, t)) ∧ zFrA f f2 := by
  have h9 := hr.2.2.2.2.2.2.2.2.2.1
  obtain ⟨f2, r2, v2, _, fr2⟩ := hA g hw d f t l 0 (g (10 + 265 * l + 9)) 0 hl hl4 (Int.le_refl 0) (by decide) (by omega) (Or.inl rfl) hr h4.1 h4.2
  refine ⟨f2, ?_, fr2⟩
  rw [ze_M_fillerChance, zb_M_fillerChance_0, r_of hl hl4 (by decide) (by decide), zK_i, zb_M_fillerChance_7]
  have fin : zD (true, q) (d + 61) zc_M_fillerChance (zat zc_M_fillerChance 14) [(20, 1464, 0), (0, l, 0)] [] (zrow f2 1465 g, t) = some ((0, zClamp (g (10 + 265 * l + 1) + (A (rFact g l 0 (g (10 + 265 * l + 9)) 0)).1), 0), (zrow f2 1465 g, t)) := by
    rw [zb_M_fillerChance_14]
    simp (disch := omega) only [zrow_ne, v2]
  by_cases c : g (10 + 265 * l + 9) = 1
  · rw [if_neg (fun z => z c), zb_M_fillerChance_9]
    rw [c] at r2 fin ⊢
    rw [r2, zK_v]
    exact fin
  · rw [if_pos c, zb_M_fillerChance_11]
    rw [show g (10 + 265 * l + 9) = 0 by omega] at r2 fin ⊢
    rw [r2, zK_v]
    exact fin
theorem c_fill {q : Int × (Int → Int)} {d : Nat} {σ : zS} {W l a : Int} {g : Int → Int} {S : Int → (Int → Int) → Int} {h0 : Int → Int → Int} (hS : zSC S) (hA : zAskC q S a h0) (hh : ∀ o k, a ≤ o → o < a + 6 → σ.1 o k = h0 o k) (ha : a + 7 ≤ W) (hl : 0 ≤ l) (hl4 : l < 4) (h6 : σ.1 W 6 = g 4) (hr : rLR g (10 + 265 * l)) {n : Int} (hL : zLC n σ.1 (W + 23 + 18 * l) g (10 + 265 * l)) : ∃ f2, zM (true, q) (d + 5) 208 [(18, W, 0), (0, l, 0), (12, a, 0)] σ = some ((0, zClamp (g (10 + 265 * l + 1) + (zLwA S (rFact g l 0 (g (10 + 265 * l + 9)) 0)).1), 0), (f2, σ.2)) ∧ ∀ o k, o ≠ a + 6 → o ≠ W + 22 → f2 o k = σ.1 o k := by
  have h9 := hr.2.2.2.2.2.2.2.2.2.1
  obtain ⟨f1, r1, hf1, fr1⟩ := c_tellFacts (q := q) (d := d + 3) (l := l) rfl (by omega) hL h6 (by omega)
  have e5 : f1 (W + 23 + 18 * l) 5 = g (10 + 265 * l + 1) := (fr1 _ _ (by omega)).trans (zc_f5 hL)
  obtain ⟨f2, r2, fr2⟩ := c_chanceOn (q := q) (d := d) (φ := σ.1) (σ := (f1, σ.2)) (b := W + 23 + 18 * l) hS hA (fun o k o0 o1 => (fr1 o k (by omega)).trans (hh o k o0 o1)) ha (by omega) (by show 0 ≤ f1 _ _ ∧ f1 _ _ ≤ 100; rw [e5]; exact hr.2.1) hf1
  have r2 : zM (true, q) (d + 4) 123 [(18, W, 0), (13, W + 23 + 18 * l, 0), (12, a, 0)] (f1, σ.2) = some ((0, zClamp (f1 (W + 23 + 18 * l) 5 + (zLwA S (rFact g l 0 (g (10 + 265 * l + 9)) 0)).1), 0), (f2, σ.2)) := r2
  rw [e5] at r2
  refine ⟨f2, ?_, fun o k o1 o2 => (fr2 o k o1).trans (fr1 o k o2)⟩
  rw [ze_Wor_fillerChance, zb_Wor_fillerChance_0, c_lineAt hl hl4, zK_13, zb_Wor_fillerChance_5, r1, zK_v, zb_Wor_fillerChance_6, c_lineAt hl hl4, zK_13, zb_Wor_fillerChance_10, r2, zK_i, zb_Wor_fillerChance_12]
/-- both sides' chance of a filler -/
theorem ZR_fill {q : Int × (Int → Int)} {N : Int} {f : Int → Int → Int} {t : (Int → Int) × Nat × Nat × Nat × (Int → Int → Bool)} {l : Int} (hR : ZR N f f) (hl : 0 ≤ l) (hlm : l < f 1465 3) : ∃ v f1, 0 ≤ v ∧ v ≤ 100 ∧ zM (true, q) 1897 208 [(18, 23, 0), (0, l, 0), (12, 2, 0)] (f, t) = some ((0, v, 0), (f1, t)) ∧ (∀ o k, o ≠ 8 → o ≠ 45 → f1 o k = f o k) ∧ ∀ (d : Nat) (h : Int → Int → Int) (t2 : (Int → Int) × Nat × Nat × Nat × (Int → Int → Bool)), ∃ h2, zM (true, q) (d + 61) 211 [(20, 1464, 0), (0, l, 0)] (zrow h 1465 (f 1465), t2) = some ((0, v, 0), (zrow h2 1465 (f 1465), t2)) ∧ zFrA h h2 := by
  have h4 := ZR_4 hR
  obtain ⟨S, w, hS, hAC, hAs, hw, hB⟩ := zRL_ask (q := q) hR.2.2.1
  have hL := hR.2.1.2.1 l hl hlm
  have hr := (ZR_line hR hl hlm).2.1
  have ht := hR.2.1.2.2.1.2.2.1.1
  obtain ⟨f1, r1, fr1⟩ := c_fill (q := q) (d := 1892) (σ := (f, t)) hS hAC (fun _ _ _ _ => rfl) (by decide) hl (by omega) hR.2.1.1.2.2.1 hr hL
  refine ⟨zClamp (f 1465 (10 + 265 * l + 1) + (zLwA S (rFact (f 1465) l 0 (f 1465 (10 + 265 * l + 9)) 0)).1), f1, ?_, ?_, r1, fun o k o1 o2 => fr1 o k o1 o2, fun d h t2 => r_fill hAs hw hl (by omega) hr ht⟩
  · unfold zClamp
    split
    · decide
    · split <;> omega
  · unfold zClamp
    split
    · decide
    · split <;> omega
theorem zFrA_h {h h2 : Int → Int → Int} {g : Int → Int} {c : Int} (fr : zFrA (zup h 1464 0 c) h2) : zHk (zrow h 1465 g) (zrow h2 1465 g) ∧ (∀ o k, (o < 1464 ∨ o = 1478) → zrow h2 1465 g o k = zrow h 1465 g o k) ∧ zrow h2 1465 g 1464 0 = c := by
  refine ⟨⟨fun o k a => ?_, fun z => zB3_fr (fun k _ _ => congrFun (zrow_ne (by decide)) k) (fr.2 (zB3_fr (fun k k0 k1 => ?_) z))⟩, fun o k a => ?_, ?_⟩
  · by_cases c5 : o = 1465
    · rw [c5, zrow_r, zrow_r]
    · rw [zrow_ne c5, zrow_ne c5, fr.1 o k c5 (by omega) (fun z => by omega), zup_nka (by omega)]
  · rw [zup_nk (by omega), zrow_ne (by decide)]
  · rw [zrow_ne (by omega), zrow_ne (by omega), fr.1 o k (by omega) (by omega) (fun z => by omega), zup_na (by omega)]
  · rw [zrow_ne (by decide), fr.1 1464 0 (by decide) (by decide) (fun z => by omega), zupE rfl rfl]
theorem o_chance {q : Int × (Int → Int)} {N : Int} {f : Int → Int → Int} {t : (Int → Int) × Nat × Nat × Nat × (Int → Int → Bool)} {l : Int} (hR : ZR N f f) : zOw q N f t 210 [(19, 0, 0), (0, l, 0), (31, 1478, 1)] 212 [(20, 1464, 0), (0, l, 0)] := by
  have h4 := ZR_4 hR
  by_cases hl : 0 ≤ l ∧ l < f 1465 3
  · obtain ⟨v, f1, v0, v1, r1, fr1, rr⟩ := ZR_fill (q := q) (t := t) hR hl.1 hl.2
    have hx : zM (true, q) 1898 209 [(19, 0, 0), (0, l, 0)] (f, t) = some ((0, v, 0), (f1, t)) := by
      rw [ze_X_chance, zb_X_chance_0, zLT hR hl.1 hl.2, zK_13, zb_X_chance_3]
      show zK _ _ _ _ _ _ (zM (true, q) 1897 208 [(18, 23, 0), (0, l, 0), (12, 2, 0)] (f, t)) = _
      rw [r1, zK_i, zb_X_chance_10]
    have hk := k_chance_v hx
    have e : (zup f1 1478 0 v, t) = (zrow (zup f1 1478 0 v) 1465 (f 1465), t) := by
      rw [show f 1465 = zup f1 1478 0 v 1465 from funext fun k => ((zup_na (by decide)).trans (fr1 _ _ (by decide) (by decide))).symm, zrow_id]
    obtain ⟨h2, r2, fr2⟩ := rr 1837 (zup (zup f1 1478 0 v) 1464 0 0) t
    obtain ⟨a1, a2, a3⟩ := zFrA_h (g := f 1465) fr2
    have hm : zM (true, q) 1899 212 [(20, 1464, 0), (0, l, 0)] (zup f1 1478 0 v, t) = some ((0, v, 0), (zrow h2 1465 (f 1465), t)) := by
      rw [e, ze_M_chance, zb_M_chance_0, r_isLineT hl.1 hl.2 h4.2.2, zK_i, zb_M_chance_4, if_pos (by decide), zb_M_chance_7]
      simp (disch := omega) only [Int.reduceAdd, zrow_r, zrow_in, zrow_up, zrow_ne, zupE]
      rw [if_pos (by decide), zb_M_chance_14, r2, zK_i, zb_M_chance_17]
    have e2 : zrow (zup f1 1478 0 v) 1465 (f 1465) = zup f1 1478 0 v := (congrArg Prod.fst e).symm
    rw [e2] at a1 a2
    exact zOw_pure hR hk (fun o k a => (zup_na (by omega)).trans (fr1 o k (by omega) (by omega))) (fun o k o1 o2 => (zup_na o2).trans (fr1 o k (by omega) (by omega))) zTt_refl hm a2 a1 a3 (fun _ => zupE rfl rfl)
  · have hx : zM (true, q) 1898 209 [(19, 0, 0), (0, l, 0)] (f, t) = some ((102, 0, 0), (f, zThr t)) := by
      rw [ze_X_chance, zb_X_chance_0, zLF_ hR hl]
      rfl
    refine zOw_t (v := 0) rfl hR (by decide) (k_chance_102 hx) (fun h => ?_)
    rw [ze_M_chance, zb_M_chance_0, r_isLineF (by omega) h4.2.1 h4.2.2, zK_i, zb_M_chance_4, if_neg (by omega), zb_M_chance_5]
    try simp (disch := omega) only [Int.reduceAdd, zrow_r, zrow_in, zrow_up, zrow_ne, zupE]
    rw [if_neg (by decide)]
    try simp (disch := omega) only [Int.reduceAdd, zrow_r, zrow_in, zrow_up, zrow_ne, zupE]
    rw [zb_M_chance_12]

def gKH (g : Int → Int) (B k : Int) : Int := if k = 0 then -g (B + 7) else if k = 1 then g (B + 6) else if k = 2 then 1 else 0
def gNH (g : Int → Int) (B k : Int) : Int := if k = 0 then 2 else if k = 1 then 0 else if k = 2 then -g (B + 12) else 1
def gRs (g : Int → Int) (B k a b acc : Int) : Int := if gKH g B a ≤ gKH g B k ∧ gNH g B b ≤ gNH g B k then zor acc (zshl 1 k) else acc
def gRest (g : Int → Int) (B : Int) : Int := gRs g B 3 1 2 (gRs g B 2 0 3 (gRs g B 1 3 0 (gRs g B 0 2 1 0)))
theorem c_keep {q : Int × (Int → Int)} {d : Nat} {σ : zS} {n b k : Int} {g : Int → Int} {B : Int} (hr : rLR g B) (hC : zLC n σ.1 b g B) (k0 : 0 ≤ k) (k4 : k < 4) : zM (true, q) d 267 [(13, b, 0), (0, k, 0)] σ = some ((0, gKH g B k, 0), σ) := by
  have h7 := hr.2.2.2.2.2.2.2.1
  rw [ze_X_keeperHas, zb_X_keeperHas_0]
  rcases (by omega : k = 0 ∨ k = 1 ∨ k = 2 ∨ k = 3) with rfl | rfl | rfl | rfl
  · show zD (true, q) d zc_X_keeperHas (zat zc_X_keeperHas 2) _ [] σ = _
    rw [zb_X_keeperHas_2, hC.2.2.1, zw_id (by omega) (by omega)]
    rfl
  · show zD (true, q) d zc_X_keeperHas (zat zc_X_keeperHas 7) _ [] σ = _
    rw [zb_X_keeperHas_7, hC.2.1]
    rfl
  · show zD (true, q) d zc_X_keeperHas (zat zc_X_keeperHas 11) _ [] σ = _
    rw [zb_X_keeperHas_11]
    rfl
  · show zD (true, q) d zc_X_keeperHas (zat zc_X_keeperHas 13) _ [] σ = _
    rw [zb_X_keeperHas_13]
    rfl
theorem c_nois {q : Int × (Int → Int)} {d : Nat} {σ : zS} {n b k : Int} {g : Int → Int} {B : Int} (hr : rLR g B) (hC : zLC n σ.1 b g B) (k0 : 0 ≤ k) (k4 : k < 4) : zM (true, q) d 268 [(13, b, 0), (0, k, 0)] σ = some ((0, gNH g B k, 0), σ) := by
  have h12 := hr.2.2.2.2.2.2.2.2.2.2.2.2.1
  rw [ze_X_noiseHas, zb_X_noiseHas_0]
  rcases (by omega : k = 0 ∨ k = 1 ∨ k = 2 ∨ k = 3) with rfl | rfl | rfl | rfl
  · show zD (true, q) d zc_X_noiseHas (zat zc_X_noiseHas 2) _ [] σ = _
    rw [zb_X_noiseHas_2]
    rfl
  · show zD (true, q) d zc_X_noiseHas (zat zc_X_noiseHas 4) _ [] σ = _
    rw [zb_X_noiseHas_4]
    rfl
  · show zD (true, q) d zc_X_noiseHas (zat zc_X_noiseHas 6) _ [] σ = _
    rw [zb_X_noiseHas_6, zc_f14 hC, zw_id (by omega) (by omega)]
    rfl
  · show zD (true, q) d zc_X_noiseHas (zat zc_X_noiseHas 10) _ [] σ = _
    rw [zb_X_noiseHas_10]
    rfl
theorem cs_rest {q : Int × (Int → Int)} {d : Nat} {σ : zS} {n l b k a c acc : Int} {g : Int → Int} {B : Int} {v5 v6 : zV} (hr : rLR g B) (hC : zLC n σ.1 b g B) (k0 : 0 ≤ k) (k4 : k < 4) (ha : zxor k 2 = a) (hc : zxor k 1 = c) (a0 : 0 ≤ a ∧ a < 4) (c0 : 0 ≤ c ∧ c < 4) : ∃ w5 w6, zD (true, q) (d + 1) zc_X_rests (zat zc_X_rests 8) [(19, 0, 0), (0, l, 0), (13, b, 0), (0, acc, 0), (0, k, 0), v5, v6] [] σ = zD (true, q) (d + 1) zc_X_rests (zat zc_X_rests 8) [(19, 0, 0), (0, l, 0), (13, b, 0), (0, gRs g B k a c acc, 0), (0, k + 1, 0), w5, w6] [] σ := by
  have tail : ∀ x5 : Int, ∃ w5 w6, zD (true, q) (d + 1) zc_X_rests (zat zc_X_rests 27) [(19, 0, 0), (0, l, 0), (13, b, 0), (0, acc, 0), (0, k, 0), (0, x5, 0), v6] [(0, gNH g B k, 0)] σ = zD (true, q) (d + 1) zc_X_rests (zat zc_X_rests 8) [(19, 0, 0), (0, l, 0), (13, b, 0), (0, if x5 ≠ 0 ∧ gNH g B c ≤ gNH g B k then zor acc (zshl 1 k) else acc, 0), (0, k + 1, 0), w5, w6] [] σ := by
    intro x5
    rw [zb_X_rests_27, hc, c_nois hr hC c0.1 c0.2, zK_i, zb_X_rests_32]
    by_cases c2 : gNH g B c ≤ gNH g B k
    · rw [if_neg (by omega), zb_X_rests_33]
      by_cases c5 : x5 = 0
      · rw [if_pos c5, if_neg (fun z => z.1 c5), zb_X_rests_47, zw_id (by omega) (by omega)]
        exact ⟨_, _, rfl⟩
      · rw [if_neg c5, if_pos ⟨c5, c2⟩, zb_X_rests_39, if_neg (by decide), zb_X_rests_41, zw_id (by omega) (by omega)]
        exact ⟨_, _, rfl⟩
    · rw [if_pos (by omega), zb_X_rests_35, if_neg (show ¬(x5 ≠ 0 ∧ gNH g B c ≤ gNH g B k) from fun z => c2 z.2)]
      by_cases c5 : x5 = 0
      · rw [if_pos c5, zb_X_rests_47, zw_id (by omega) (by omega)]
        exact ⟨_, _, rfl⟩
      · rw [if_neg c5, zb_X_rests_39, if_pos rfl, zb_X_rests_47, zw_id (by omega) (by omega)]
        exact ⟨_, _, rfl⟩
  rw [zb_X_rests_8, if_neg (by omega), zb_X_rests_11, c_keep hr hC k0 k4, zK_i, zb_X_rests_14, ha, c_keep hr hC a0.1 a0.2, zK_i, zb_X_rests_19]
  unfold gRs
  by_cases c1 : gKH g B a ≤ gKH g B k
  · obtain ⟨w5, w6, h⟩ := tail 1
    refine ⟨w5, w6, ?_⟩
    rw [if_neg (by omega), zb_X_rests_20, c_nois hr hC k0 k4, zK_i, h]
    by_cases c2 : gNH g B c ≤ gNH g B k
    · rw [if_pos ⟨by decide, c2⟩, if_pos ⟨c1, c2⟩]
    · rw [if_neg (fun z => c2 z.2), if_neg (fun z => c2 z.2)]
  · obtain ⟨w5, w6, h⟩ := tail 0
    refine ⟨w5, w6, ?_⟩
    rw [if_pos (by omega), zb_X_rests_22, c_nois hr hC k0 k4, zK_i, h, if_neg (fun z => z.1 rfl), if_neg (fun z => c1 z.1)]
theorem r_keep {q : Int × (Int → Int)} {d : Nat} {f : Int → Int → Int} {t : (Int → Int) × Nat × Nat × Nat × (Int → Int → Bool)} {g : Int → Int} {l x y : Int} (hl : 0 ≤ l) (hl4 : l < 4) (hr : rLR g (10 + 265 * l)) (hx : x = 0 ∨ x = 1) (hy : y = 0 ∨ y = 1) : zM (true, q) (d + 1) 271 [(20, 1464, 0), (0, l, 0), (0, x, 0), (0, y, 0)] (zrow f 1465 g, t) = some ((0, gKH g (10 + 265 * l) (2 * x + y), 0), (zrow f 1465 g, t)) := by
  have h7 := hr.2.2.2.2.2.2.2.1
  rw [ze_M_keeperHas, zb_M_keeperHas_0]
  rcases hx with rfl | rfl
  · rw [if_neg (by decide), zb_M_keeperHas_2]
    rcases hy with rfl | rfl
    · rw [if_neg (by decide), zb_M_keeperHas_4, r_of hl hl4 (by decide) (by decide), zK_i, zb_M_keeperHas_8, zw_id (by omega) (by omega)]
      rfl
    · rw [if_pos (by decide), zb_M_keeperHas_10, r_of hl hl4 (by decide) (by decide), zK_i, zb_M_keeperHas_14]
      rfl
  · rw [if_pos (by decide), zb_M_keeperHas_15]
    rcases hy with rfl | rfl
    · rw [if_neg (by decide), zb_M_keeperHas_17]
      rfl
    · rw [if_pos (by decide), zb_M_keeperHas_19]
      rfl
theorem r_nois {q : Int × (Int → Int)} {d : Nat} {f : Int → Int → Int} {t : (Int → Int) × Nat × Nat × Nat × (Int → Int → Bool)} {g : Int → Int} {l x y : Int} (hl : 0 ≤ l) (hl4 : l < 4) (hr : rLR g (10 + 265 * l)) (hx : x = 0 ∨ x = 1) (hy : y = 0 ∨ y = 1) : zM (true, q) (d + 1) 272 [(20, 1464, 0), (0, l, 0), (0, x, 0), (0, y, 0)] (zrow f 1465 g, t) = some ((0, gNH g (10 + 265 * l) (2 * x + y), 0), (zrow f 1465 g, t)) := by
  have h12 := hr.2.2.2.2.2.2.2.2.2.2.2.2.1
  rw [ze_M_noiseHas, zb_M_noiseHas_0]
  rcases hx with rfl | rfl
  · rw [if_neg (by decide), zb_M_noiseHas_2]
    rcases hy with rfl | rfl
    · rw [if_neg (by decide), zb_M_noiseHas_4]
      rfl
    · rw [if_pos (by decide), zb_M_noiseHas_6]
      rfl
  · rw [if_pos (by decide), zb_M_noiseHas_8]
    rcases hy with rfl | rfl
    · rw [if_neg (by decide), zb_M_noiseHas_10, r_of hl hl4 (by decide) (by decide), zK_i, zb_M_noiseHas_14, zw_id (by omega) (by omega)]
      rfl
    · rw [if_pos (by decide), zb_M_noiseHas_16]
      rfl
theorem rs_rest {q : Int × (Int → Int)} {d : Nat} {f : Int → Int → Int} {t : (Int → Int) × Nat × Nat × Nat × (Int → Int → Bool)} {g : Int → Int} {l k x y a c acc : Int} {v4 v5 : zV} (hl : 0 ≤ l) (hl4 : l < 4) (hr : rLR g (10 + 265 * l)) (k0 : 0 ≤ k) (k4 : k < 4) (hx2 : zdiv k 2 = x) (hy2 : zrem k 2 = y) (hx : x = 0 ∨ x = 1) (hy : y = 0 ∨ y = 1) (hk : 2 * x + y = k) (ha : 2 * (1 - x) + y = a) (hc : 2 * x + (1 - y) = c) : ∃ w4 w5, zD (true, q) (d + 2) zc_M_rests (zat zc_M_rests 18) [(20, 1464, 0), (0, l, 0), (0, acc, 0), (0, k, 0), v4, v5] [] (zrow f 1465 g, t) = zD (true, q) (d + 2) zc_M_rests (zat zc_M_rests 18) [(20, 1464, 0), (0, l, 0), (0, gRs g (10 + 265 * l) k a c acc, 0), (0, k + 1, 0), w4, w5] [] (zrow f 1465 g, t) := by
  refine ⟨(0, x, 0), (0, y, 0), ?_⟩
  rw [zb_M_rests_18, if_neg (by omega), zb_M_rests_21, zG1 (by decide), hx2, zb_M_rests_24, zG1 (by decide), hy2, zb_M_rests_28, zw_id (by omega) (by omega), r_keep hl hl4 hr (by omega) hy, zK_i, zb_M_rests_36, r_keep hl hl4 hr hx hy, zK_i, zb_M_rests_41, ha, hk]
  unfold gRs
  by_cases c1 : gKH g (10 + 265 * l) a ≤ gKH g (10 + 265 * l) k
  · rw [if_neg (by omega), zb_M_rests_42, zw_id (by omega) (by omega), r_nois hl hl4 hr hx (by omega), zK_i, zb_M_rests_49, r_nois hl hl4 hr hx hy, zK_i, zb_M_rests_54, hc, hk]
    by_cases c2 : gNH g (10 + 265 * l) c ≤ gNH g (10 + 265 * l) k
    · rw [if_neg (by omega), if_pos ⟨c1, c2⟩, zb_M_rests_55, zw_id (by omega) (by omega)]
    · rw [if_pos (by omega), if_neg (fun z => c2 z.2), zb_M_rests_61, zw_id (by omega) (by omega)]
  · rw [if_pos (by omega), if_neg (fun z => c1 z.1), zb_M_rests_61, zw_id (by omega) (by omega)]
theorem o_rests {q : Int × (Int → Int)} {N : Int} {f : Int → Int → Int} {t : (Int → Int) × Nat × Nat × Nat × (Int → Int → Bool)} {l : Int} (hR : ZR N f f) : zOw q N f t 270 [(19, 0, 0), (0, l, 0), (31, 1478, 1)] 273 [(20, 1464, 0), (0, l, 0)] := by
  have h4 := ZR_4 hR
  by_cases hl : 0 ≤ l ∧ l < f 1465 3
  · obtain ⟨hC, hI⟩ := ZR_line hR hl.1 hl.2
    have hr := hI.1
    have hx : zM (true, q) 1898 269 [(19, 0, 0), (0, l, 0)] (f, t) = some ((0, gRest (f 1465) (10 + 265 * l), 0), (f, t)) := by
      rw [ze_X_rests, zb_X_rests_0, zLT hR hl.1 hl.2, zK_13, zb_X_rests_3]
      obtain ⟨a1, a2, ha⟩ := cs_rest (q := q) (d := 1897) (σ := (f, t)) (l := l) (acc := 0) (v5 := (2, 0, 0)) (v6 := (2, 0, 0)) hr hC (k := 0) (a := 2) (c := 1) (by decide) (by decide) (by decide) (by decide) (by decide) (by decide)
      obtain ⟨b1, b2, hb⟩ := cs_rest (q := q) (d := 1897) (σ := (f, t)) (l := l) (acc := gRs (f 1465) (10 + 265 * l) 0 2 1 0) (v5 := a1) (v6 := a2) hr hC (k := 1) (a := 3) (c := 0) (by decide) (by decide) (by decide) (by decide) (by decide) (by decide)
      obtain ⟨c1, c2, hc⟩ := cs_rest (q := q) (d := 1897) (σ := (f, t)) (l := l) (acc := gRs (f 1465) (10 + 265 * l) 1 3 0 (gRs (f 1465) (10 + 265 * l) 0 2 1 0)) (v5 := b1) (v6 := b2) hr hC (k := 2) (a := 0) (c := 3) (by decide) (by decide) (by decide) (by decide) (by decide) (by decide)
      obtain ⟨d1, d2, hd⟩ := cs_rest (q := q) (d := 1897) (σ := (f, t)) (l := l) (acc := gRs (f 1465) (10 + 265 * l) 2 0 3 (gRs (f 1465) (10 + 265 * l) 1 3 0 (gRs (f 1465) (10 + 265 * l) 0 2 1 0))) (v5 := c1) (v6 := c2) hr hC (k := 3) (a := 1) (c := 2) (by decide) (by decide) (by decide) (by decide) (by decide) (by decide)
      refine ha.trans (hb.trans (hc.trans (hd.trans ?_)))
      show zD (true, q) 1898 zc_X_rests (zat zc_X_rests 8) [(19, 0, 0), (0, l, 0), (13, 46 + 18 * l, 0), (0, gRest (f 1465) (10 + 265 * l), 0), (0, 4, 0), d1, d2] [] (f, t) = _
      rw [zb_X_rests_8, if_pos (by decide), zb_X_rests_49]
    refine zOw_v rfl hR (k_rests_v hx) (fun h => ?_)
    rw [ze_M_rests, zb_M_rests_0, r_isLineT hl.1 hl.2 h4.2.2, zK_i, zb_M_rests_4, if_pos (by decide), zb_M_rests_7]
    simp (disch := omega) only [Int.reduceAdd, zrow_r, zrow_in, zrow_up, zrow_ne, zupE]
    rw [if_pos (by decide), zb_M_rests_14]
    obtain ⟨a1, a2, ha⟩ := rs_rest (q := q) (d := 1897) (f := zup h 1464 0 0) (t := t) (acc := 0) (v4 := (2, 0, 0)) (v5 := (2, 0, 0)) hl.1 (by omega) hr (k := 0) (x := 0) (y := 0) (a := 2) (c := 1) (by decide) (by decide) (by decide) (by decide) (by decide) (by decide) (by decide) (by decide) (by decide)
    obtain ⟨b1, b2, hb⟩ := rs_rest (q := q) (d := 1897) (f := zup h 1464 0 0) (t := t) (acc := gRs (f 1465) (10 + 265 * l) 0 2 1 0) (v4 := a1) (v5 := a2) hl.1 (by omega) hr (k := 1) (x := 0) (y := 1) (a := 3) (c := 0) (by decide) (by decide) (by decide) (by decide) (by decide) (by decide) (by decide) (by decide) (by decide)
    obtain ⟨c1, c2, hc⟩ := rs_rest (q := q) (d := 1897) (f := zup h 1464 0 0) (t := t) (acc := gRs (f 1465) (10 + 265 * l) 1 3 0 (gRs (f 1465) (10 + 265 * l) 0 2 1 0)) (v4 := b1) (v5 := b2) hl.1 (by omega) hr (k := 2) (x := 1) (y := 0) (a := 0) (c := 3) (by decide) (by decide) (by decide) (by decide) (by decide) (by decide) (by decide) (by decide) (by decide)
    obtain ⟨d1, d2, hd⟩ := rs_rest (q := q) (d := 1897) (f := zup h 1464 0 0) (t := t) (acc := gRs (f 1465) (10 + 265 * l) 2 0 3 (gRs (f 1465) (10 + 265 * l) 1 3 0 (gRs (f 1465) (10 + 265 * l) 0 2 1 0))) (v4 := c1) (v5 := c2) hl.1 (by omega) hr (k := 3) (x := 1) (y := 1) (a := 1) (c := 2) (by decide) (by decide) (by decide) (by decide) (by decide) (by decide) (by decide) (by decide) (by decide)
    refine ha.trans (hb.trans (hc.trans (hd.trans ?_)))
    show zD (true, q) 1899 zc_M_rests (zat zc_M_rests 18) [(20, 1464, 0), (0, l, 0), (0, gRest (f 1465) (10 + 265 * l), 0), (0, 4, 0), d1, d2] [] _ = _
    rw [zb_M_rests_18, if_pos (by decide), zb_M_rests_63]
  · have hx : zM (true, q) 1898 269 [(19, 0, 0), (0, l, 0)] (f, t) = some ((102, 0, 0), (f, zThr t)) := by
      rw [ze_X_rests, zb_X_rests_0, zLF_ hR hl]
      rfl
    refine zOw_t (v := 0) rfl hR (by decide) (k_rests_102 hx) (fun h => ?_)
    rw [ze_M_rests, zb_M_rests_0, r_isLineF (by omega) h4.2.1 h4.2.2, zK_i, zb_M_rests_4, if_neg (by omega), zb_M_rests_5]
    try simp (disch := omega) only [Int.reduceAdd, zrow_r, zrow_in, zrow_up, zrow_ne, zupE]
    rw [if_neg (by decide)]
    try simp (disch := omega) only [Int.reduceAdd, zrow_r, zrow_in, zrow_up, zrow_ne, zupE]
    rw [zb_M_rests_12]

