/-! ## the class: what arrives, in passLine -/
theorem zup1_congr {h h2 : Int → Int} {k v v2 j : Int} (hv : v = v2) (hj : j ≠ k → h j = h2 j) : zup1 h k v j = zup1 h2 k v2 j := by
  by_cases c : j = k
  · rw [zup1_eq c, zup1_eq c, hv]
  · rw [zup1_ne c, zup1_ne c, hj c]
theorem mdn_congr {h h2 : Int → Int} {lo hi s j : Int} (hj : h j = h2 j) (hs : lo ≤ j → j < hi → h (j - s) = h2 (j - s)) : mdn h lo hi s j = mdn h2 lo hi s j := by
  by_cases c : lo ≤ j ∧ j < hi
  · rw [mdn_in c.1 c.2, mdn_in c.1 c.2, hs c.1 c.2]
  · rw [mdn_out (by omega), mdn_out (by omega), hj]
theorem rWatch_congr {h h2 : Int → Int} {B x y j : Int} (h12 : h (B + 12) = h2 (B + 12)) (h13 : h (B + 13) = h2 (B + 13)) (hj : h j = h2 j) : rWatch h B x y j = rWatch h2 B x y j := by
  unfold rWatch
  rw [h12, h13]
  split
  · exact zup1_congr rfl (fun _ => zup1_congr rfl (fun _ => hj))
  · split
    · exact hj
    · split
      · exact zup1_congr rfl (fun _ => hj)
      · exact zup1_congr rfl (fun _ => zup1_congr rfl (fun _ => hj))
theorem rLog_congr {h h2 : Int → Int} {l w v j : Int} (h4 : h 4 = h2 4) (h8 : h 8 = h2 8) (hj : h j = h2 j) (hs : 1074 ≤ j → j < 1310 → h (j - 4) = h2 (j - 4)) : rLog h l w v j = rLog h2 l w v j := by
  unfold rLog
  rw [h4, h8]
  exact zup1_congr rfl (fun _ => zup1_congr rfl (fun _ => zup1_congr rfl (fun _ => zup1_congr rfl (fun _ => zup1_congr rfl (fun _ => mdn_congr hj hs)))))
theorem rTake_congr {h h2 : Int → Int} {l B w x j : Int} (hB : 10 ≤ B) (hB2 : B + 265 ≤ 1070) (e : ∀ i, (i < B + 49 ∨ B + 69 ≤ i) → h i = h2 i) (hj : h j = h2 j) : rTake h l B w x j = rTake h2 l B w x j := by
  have z : ∀ i, h i = h2 i → zup1 (zup1 (zup1 h 6 (if h 6 + w ≤ 99999 then h 6 + w else 99999)) 5 (zw (h 5 + 1))) (B + 11) (zrem (h (B + 11) + 1) 16) i = zup1 (zup1 (zup1 h2 6 (if h2 6 + w ≤ 99999 then h2 6 + w else 99999)) 5 (zw (h2 5 + 1))) (B + 11) (zrem (h2 (B + 11) + 1) 16) i := by
    intro i hi
    rw [e 6 (by omega), e 5 (by omega), e (B + 11) (by omega)]
    exact zup1_congr rfl (fun _ => zup1_congr rfl (fun _ => zup1_congr rfl (fun _ => hi)))
  unfold rTake
  exact rLog_congr (z 4 (e 4 (by omega))) (z 8 (e 8 (by omega))) (z j hj) (fun _ _ => z (j - 4) (e _ (by omega)))
theorem rAir_out2 {g : Int → Int} {B j : Int} (p1 : 1 ≤ g (B + 2)) (p4 : g (B + 2) ≤ 4) (h : j < B + 49 ∨ B + 69 ≤ j) : rAir g B j = g j := rAir_out p1 p4 h
theorem rAir_congr {h h2 : Int → Int} {B : Int} (p1 : 1 ≤ h (B + 2)) (p4 : h (B + 2) ≤ 4) (e2 : h2 (B + 2) = h (B + 2)) (e : ∀ j, B + 49 ≤ j → j < B + 69 → h j = h2 j) {j : Int} (j0 : B + 49 ≤ j) (j1 : j < B + 69) : rAir h B j = rAir h2 B j := by
  unfold rAir
  rw [e2]
  by_cases c1 : B + 49 + (5 * h (B + 2) - 5) ≤ j ∧ j < B + 49 + (5 * h (B + 2) - 5) + 5
  · rw [mfil_in c1.1 c1.2, mfil_in c1.1 c1.2]
  · rw [mfil_out (by omega), mfil_out (by omega)]
    by_cases c2 : j < B + 49 + (5 * h (B + 2) - 5)
    · rw [msh_in (by omega) c2, msh_in (by omega) c2]
      exact e _ (by omega) (by omega)
    · rw [msh_out (by omega), msh_out (by omega)]
      exact e _ j0 j1
/-- the class lets come ahead last -/
theorem arr_eq {g : Int → Int} {B x y : Int} (p1 : 1 ≤ g (B + 2)) (p4 : g (B + 2) ≤ 4) : rAir (rWatch g B x y) B = rWatch (rAir g B) B x y := by
  have w2 : rWatch g B x y (B + 2) = g (B + 2) := rWatch_out (by omega) (by omega)
  funext j
  by_cases c : B + 49 ≤ j ∧ j < B + 69
  · rw [rWatch_out (by omega) (by omega)]
    exact rAir_congr (by omega) (by omega) w2.symm (fun i i0 i1 => rWatch_out (by omega) (by omega)) c.1 c.2
  · rw [rAir_out (by omega) (by omega) (by omega)]
    exact rWatch_congr (rAir_out p1 p4 (by omega)).symm (rAir_out p1 p4 (by omega)).symm (rAir_out p1 p4 (by omega)).symm
theorem take_eq {g : Int → Int} {l B w x : Int} (hB : 10 ≤ B) (hB2 : B + 265 ≤ 1070) (p1 : 1 ≤ g (B + 2)) (p4 : g (B + 2) ≤ 4) : rAir (rTake g l B w x) B = rTake (rAir g B) l B w x := by
  have w2 : rTake g l B w x (B + 2) = g (B + 2) := rTake_out (by omega) (by omega) (by omega)
  funext j
  by_cases c : B + 49 ≤ j ∧ j < B + 69
  · rw [rTake_out (by omega) (by omega) (by omega)]
    exact rAir_congr (by omega) (by omega) w2.symm (fun i i0 i1 => rTake_out (by omega) (by omega) (by omega)) c.1 c.2
  · rw [rAir_out (by omega) (by omega) (by omega)]
    exact rTake_congr hB hB2 (fun i hi => (rAir_out p1 p4 hi).symm) (rAir_out p1 p4 (by omega)).symm
theorem rRepS_congr {g h : Int → Int} {B m : Int} : ∀ (n : Nat) (i r : Int), (∀ k c, i ≤ k → k < i + n → 0 ≤ c → c < 4 → g (B + (17 + 4 * k + c)) = h (B + (17 + 4 * k + c))) → rRepS g B m n i r = rRepS h B m n i r := by
  intro n
  induction n with
  | zero => intro i r _; rfl
  | succ n ih =>
    intro i r hk
    show rRepS g B m n (i + 1) (if r ≠ 0 then 1 else if g (B + (17 + 4 * i + 2)) = m ∧ 1 < g (B + (17 + 4 * i + 3)) then 1 else 0) = rRepS h B m n (i + 1) (if r ≠ 0 then 1 else if h (B + (17 + 4 * i + 2)) = m ∧ 1 < h (B + (17 + 4 * i + 3)) then 1 else 0)
    rw [hk i 2 (by omega) (by omega) (by decide) (by decide), hk i 3 (by omega) (by omega) (by decide) (by decide)]
    exact ih (i + 1) _ (fun k c a1 a2 => hk k c (by omega) (by omega))
theorem c_lineAt {q : Int × (Int → Int)} {d : Nat} {σ : zS} {W i : Int} (h0 : 0 ≤ i) (h4 : i < 4) : zM (true, q) d 37 [(18, W, 0), (0, i, 0)] σ = some ((13, W + 23 + 18 * i, 0), σ) := by
  rw [ze_Wor_lineAt, zb_Wor_lineAt_0, if_neg (by omega), zb_Wor_lineAt_2, if_neg (by omega), zb_Wor_lineAt_7, zG2 h0 h4, zb_Wor_lineAt_11, show W + 1 + 22 + 18 * i = W + 23 + 18 * i by omega]
theorem zGC_watch {f f2 : Int → Int → Int} {W B x y b : Int} {g : Int → Int} (hB : 10 ≤ B) (hB2 : B + 265 ≤ 1070) (hb : W + 23 ≤ b) (g60 : g 8 ≤ 60) (fr : zFb b f f2) (h : zGC f W g) : zGC f2 W (rWatch g B x y) := zGC_fr (fun k => fr _ _ (by omega)) (fun k => fr _ _ (by omega)) (fun k => fr _ _ (by omega)) (fun j hj => rWatch_out (by omega) (by omega)) g60 h
theorem zLI_watch {N : Int} {g : Int → Int} {B : Int} (hI : zIL N g B) : zIL N (rWatch g B (g (B + (49 + 0))) (g (B + (49 + 3)))) B := by
  obtain ⟨h_0, h_1, h_2, h_3, h_4, h_5, h_6, h_7, h_8, h_9, h_10, h_11, h_12, h_13, h_14, h_15, h_16⟩ := id hI.1
  have e : ∀ j, j ≠ 12 → j ≠ 13 → rWatch g B (g (B + (49 + 0))) (g (B + (49 + 3))) (B + j) = g (B + j) := fun j _ _ => rWatch_out (by omega) (by omega)
  have ha := rArr_12 h_2.1 h_2.2 h_12 h_13
  have e12 : rArr g B (B + 12) = rWatch g B (g (B + (49 + 0))) (g (B + (49 + 3))) (B + 12) := rWatch_congr (rAir_out h_2.1 h_2.2 (by omega)) (rAir_out h_2.1 h_2.2 (by omega)) (rAir_out h_2.1 h_2.2 (by omega))
  have e13 : rArr g B (B + 13) = rWatch g B (g (B + (49 + 0))) (g (B + (49 + 3))) (B + 13) := rWatch_congr (rAir_out h_2.1 h_2.2 (by omega)) (rAir_out h_2.1 h_2.2 (by omega)) (rAir_out h_2.1 h_2.2 (by omega))
  rw [e12, e13] at ha
  refine zLI_mk (zLK_eq (fun j _ _ _ _ h _ => e j (by omega) (by omega)) (zLI_k hI) ?_ ?_ ha.1 ha.2 ?_ ?_ ?_) ?_
  · rw [e 8 (by decide) (by decide)]; exact h_8
  · rw [e 9 (by decide) (by decide)]; exact h_9
  · rw [e 14 (by decide) (by decide)]; exact h_14
  · rw [e 15 (by decide) (by decide)]; exact h_15
  · rw [e 16 (by decide) (by decide)]; exact h_16
  · unfold zLH
    rw [e 8 (by decide) (by decide), e 7 (by decide) (by decide), e 9 (by decide) (by decide), e 0 (by decide) (by decide)]
    exact hI.2.2.1
theorem c_arr {q : Int × (Int → Int)} {d : Nat} {σ : zS} {N W l b a dr : Int} {g : Int → Int} {B : Int} {S : Int → (Int → Int) → Int} {h0 : Int → Int → Int} (hS : zSC S) (hA : zAskC q S a h0) (hh : ∀ o k, a ≤ o → o < a + 6 → σ.1 o k = h0 o k) (ha : a + 7 ≤ W) (hB : B = 10 + 265 * l) (hl : 0 ≤ l) (hl4 : l < 4) (hb : b = W + 23 + 18 * l) (hI : zIL N g B) (hR : zGR N g) (h : zLC (g (B + 2)) σ.1 b g B) (hG : zGC σ.1 W g) : ∃ f2, zM (true, q) (d + 5) 134 [(18, W, 0), (0, l, 0), (12, a, 0), (0, dr, 0)] σ = zD (true, q) (d + 5) zc_Wor_passLine (zat zc_Wor_passLine 18) [(18, W, 0), (0, l, 0), (12, a, 0), (0, dr, 0), (13, b, 0), (0, if g (B + (49 + 3)) = 1 then 1 else 0, 0), (2, 0, 0), (2, 0, 0)] [] (f2, σ.2) ∧ zLC (g (B + 2) - 1) f2 b (kTake (zLwA S) g l B) B ∧ zGC f2 W (kTake (zLwA S) g l B) ∧ zFX W b a σ.1 f2 := by
  obtain ⟨h_0, h_1, h_2, h_3, h_4, h_5, h_6, h_7, h_8, h_9, h_10, h_11, h_12, h_13, h_14, h_15, h_16⟩ := id hI.1
  have hB1 : 10 ≤ B := by omega
  have hB2 : B + 265 ≤ 1070 := by omega
  have hla := c_lineAt (q := q) (d := d + 4) (σ := σ) (W := W) hl hl4
  rw [← hb] at hla
  obtain ⟨f1, r1, h1, fr1⟩ := c_watch (q := q) (d := d + 2) h_2.1 h hI.1 hI.2.2.2.1
  have i1 := zLI_watch hI
  have G1 := zGC_watch (x := g (B + (49 + 0))) (y := g (B + (49 + 3))) hB1 hB2 (by omega) hR.2.2.2.2 fr1 hG
  have eG : ∀ j, j ≠ B + 12 → j ≠ B + 13 → rWatch g B (g (B + (49 + 0))) (g (B + (49 + 3))) j = g j := fun j a1 a2 => rWatch_out a1 a2
  have a0 := eG (B + (49 + 0)) (by omega) (by omega)
  have a1 := eG (B + (49 + 1)) (by omega) (by omega)
  have a2 := eG (B + (49 + 2)) (by omega) (by omega)
  have a3 := eG (B + (49 + 3)) (by omega) (by omega)
  have a4 := eG (B + (49 + 4)) (by omega) (by omega)
  have a9 := eG (B + 9) (by omega) (by omega)
  have a11 := eG (B + 11) (by omega) (by omega)
  have a22 := eG (B + 2) (by omega) (by omega)
  have a7 := eG (B + 7) (by omega) (by omega)
  have aR : zGR N (rWatch g B (g (B + (49 + 0))) (g (B + (49 + 3)))) := zGR_eq (fun j _ _ => eG j (by omega) (by omega)) hR
  have rt := c_takesArrived (q := q) (d := d + 2) (σ := (f1, σ.2)) h_2.1 h1 i1.2.2.2.1
  rw [a0, a2, a3, a11] at rt
  have eA := arr_eq (x := g (B + (49 + 0))) (y := g (B + (49 + 3))) h_2.1 h_2.2
  have eA : rAir (rWatch g B (g (B + (49 + 0))) (g (B + (49 + 3)))) B = rArr g B := eA
  have run : zM (true, q) (d + 5) 134 [(18, W, 0), (0, l, 0), (12, a, 0), (0, dr, 0)] σ = if (if g (B + (49 + 0)) = 2 ∧ g (B + (49 + 3)) ≠ 1 ∧ g (B + (49 + 2)) = g (B + 11) then (1 : Int) else 0) = 0 then zD (true, q) (d + 5) zc_Wor_passLine (zat zc_Wor_passLine 15) [(18, W, 0), (0, l, 0), (12, a, 0), (0, dr, 0), (13, b, 0), (0, if g (B + (49 + 3)) = 1 then 1 else 0, 0), (2, 0, 0), (2, 0, 0)] [] (f1, σ.2) else zD (true, q) (d + 5) zc_Wor_passLine (zat zc_Wor_passLine 10) [(18, W, 0), (0, l, 0), (12, a, 0), (0, dr, 0), (13, b, 0), (0, if g (B + (49 + 3)) = 1 then 1 else 0, 0), (2, 0, 0), (2, 0, 0)] [] (f1, σ.2) := by
    rw [ze_Wor_passLine, zb_Wor_passLine_0, hla]
    show zD (true, q) (d + 4 + 1) zc_Wor_passLine (zat zc_Wor_passLine 3) _ [(13, b, 0)] σ = _
    rw [zb_Wor_passLine_3, r1, zK_i, zb_Wor_passLine_6, rt, zK_i, zb_Wor_passLine_9]
  rw [run]
  have f7 : g (B + 7) ≤ 8 := h_7.2
  have fin : ∀ (f3 : Int → Int → Int) (H : Int → Int), H (B + 2) = g (B + 2) → H (B + 7) ≤ 8 → zLC (g (B + 2)) f3 b H B → zGC f3 W H → H 8 ≤ 60 → zFX W b a σ.1 f3 → rAir H B = kTake (zLwA S) g l B → ∃ f2, zD (true, q) (d + 5) zc_Wor_passLine (zat zc_Wor_passLine 15) [(18, W, 0), (0, l, 0), (12, a, 0), (0, dr, 0), (13, b, 0), (0, if g (B + (49 + 3)) = 1 then 1 else 0, 0), (2, 0, 0), (2, 0, 0)] [] (f3, σ.2) = zD (true, q) (d + 5) zc_Wor_passLine (zat zc_Wor_passLine 18) [(18, W, 0), (0, l, 0), (12, a, 0), (0, dr, 0), (13, b, 0), (0, if g (B + (49 + 3)) = 1 then 1 else 0, 0), (2, 0, 0), (2, 0, 0)] [] (f2, σ.2) ∧ zLC (g (B + 2) - 1) f2 b (kTake (zLwA S) g l B) B ∧ zGC f2 W (kTake (zLwA S) g l B) ∧ zFX W b a σ.1 f2 := by
    intro f3 H e2 e7 h3 hG3 h8 fr3 eH
    obtain ⟨f4, r4, h4, fr4⟩ := c_comeAhead (q := q) (d := d + 3) (σ := (f3, σ.2)) (b := b) (g := H) (B := B) (by omega) (by omega) e7 (by rw [e2]; exact h3)
    rw [eH, e2] at h4
    refine ⟨f4, ?_, h4, ?_, zFX_trans fr3 (zFX_b fr4)⟩
    · rw [zb_Wor_passLine_15, r4, zK_v]
    · rw [← eH]
      exact zGC_fr (fun k => fr4 _ _ (by omega)) (fun k => fr4 _ _ (by omega)) (fun k => fr4 _ _ (by omega)) (fun j hj => rAir_out (by omega) (by omega) (by omega)) h8 hG3
  by_cases c : g (B + (49 + 0)) = 2 ∧ g (B + (49 + 3)) ≠ 1 ∧ g (B + (49 + 2)) = g (B + 11)
  · rw [if_pos c, if_neg (by decide)]
    obtain ⟨f3, r3, h3, hG3, fr3⟩ := c_take (q := q) (d := d) (σ := (f1, σ.2)) hS hA (fun o k b1 b2 => (fr1 o k (by omega)).trans (hh o k b1 b2)) ha hB hl hl4 (by omega) h_2.1 h_2.2 i1 aR h1 G1 (by rw [a0]; exact c.1)
    rw [zb_Wor_passLine_10, r3, zK_v]
    have eT := take_eq (g := rWatch g B (g (B + (49 + 0))) (g (B + (49 + 3)))) (l := l) (w := g (B + (49 + 4)) + (zLwA S (rFact (rWatch g B (g (B + (49 + 0))) (g (B + (49 + 3)))) l (g (B + (49 + 4))) (g (B + 9)) (rRep (rWatch g B (g (B + (49 + 0))) (g (B + (49 + 3)))) B (g (B + 11))))).2) (x := g (B + (49 + 1))) hB1 hB2 (by rw [a22]; exact h_2.1) (by rw [a22]; exact h_2.2)
    rw [a1, a4, a9, a11] at h3 hG3
    refine fin f3 _ ?_ ?_ h3 hG3 ?_ (zFX_trans (zFX_b fr1) fr3) ?_
    · rw [rTake_out (by omega) (by omega) (by omega), a22]
    · rw [rTake_out (by omega) (by omega) (by omega), a7]
      exact h_7.2
    · unfold rTake
      rw [rLog_8]
      split <;> omega
    · rw [eT, eA]
      unfold kTake
      rw [if_pos c, c.2.2]
      have er : rRep (rWatch g B (g (B + (49 + 0))) (g (B + (49 + 3)))) B (g (B + 11)) = rRep (rArr g B) B (g (B + 11)) := by
        have e7 : rArr g B (B + 7) = g (B + 7) := rArr_out h_2.1 h_2.2 (by omega)
        unfold rRep
        rw [a7, e7]
        exact rRepS_congr _ _ _ (fun k c0 b1 b2 b3 b4 => (eG _ (by omega) (by omega)).trans (rArr_out h_2.1 h_2.2 (by omega)).symm)
      rw [er]
      subst hB
      rw [rFact_ne (h := rArr g (10 + 265 * l)) (a7.trans (rArr_out h_2.1 h_2.2 (by omega)).symm) ((eG _ (by omega) (by omega)).trans (rArr_out h_2.1 h_2.2 (by omega)).symm) (rWatch_congr (rAir_out h_2.1 h_2.2 (by omega)).symm (rAir_out h_2.1 h_2.2 (by omega)).symm (rAir_out h_2.1 h_2.2 (by omega)).symm) (a22.trans (rArr_out h_2.1 h_2.2 (by omega)).symm) ((eG _ (by omega) (by omega)).trans (rArr_out h_2.1 h_2.2 (by omega)).symm)]
  · rw [if_neg c, if_pos rfl]
    refine fin f1 _ a22 (by rw [a7]; exact h_7.2) h1 G1 (by rw [eG 8 (by omega) (by omega)]; exact hR.2.2.2.2) (zFX_b fr1) ?_
    rw [eA]
    unfold kTake
    rw [if_neg c]
