/-! ## the class: what goes over -/
theorem rGto_eq {g : Int → Int} {l : Int} (hl : 0 ≤ l) (h0 : 0 ≤ g (10 + 265 * l + 7)) (h8 : g (10 + 265 * l + 7) ≤ 8) : rGto g l = rOth g l := by
  have e3 : rG2 g (10 + 265 * l) 3 = g 3 := rG2_out h0 h8 (by omega)
  unfold rGto rOth
  rw [e3]
  exact rOthS_congr (fun o j ho j0 j1 => rG2_out h0 h8 (by omega)) _ _ _ (by omega)
/-- the end of it: the line begins anew, the journal tells it -/
theorem c_over9 {q : Int × (Int → Int)} {d : Nat} {N W l x3 : Int} {F : Int → Int → Int} {t : (Int → Int) × Nat × Nat × Nat × (Int → Int → Bool)} {v5 : zV} {g : Int → Int} (f : Int → Int → Int) (hl : 0 ≤ l) (hlm : l < g 3) (hm : g 3 ≤ 4) (hr : rLR g (10 + 265 * l)) (hL : rLL g (10 + 265 * l)) (hI : ∀ o, 0 ≤ o → o < g 3 → o ≠ l → zIL N g (10 + 265 * o)) (g0 : 0 ≤ g 8) (g60 : g 8 ≤ 60) (hGf : zGC f W g) (hb : zLC (g (10 + 265 * l + 2)) f (W + 23 + 18 * l) (rApp (rG2 g (10 + 265 * l)) (10 + 265 * rGw g l) (rGov (fun _ _ => 0) g (10 + 265 * l)) (rGk g l)) (10 + 265 * l)) (hO : ∀ o, 0 ≤ o → o < g 3 → o ≠ l → zLC (g (10 + 265 * o + 2)) f (W + 23 + 18 * o) (rApp (rG2 g (10 + 265 * l)) (10 + 265 * rGw g l) (rGov (fun _ _ => 0) g (10 + 265 * l)) (rGk g l)) (10 + 265 * o)) (fr : ∀ o k, (o < W + 23 ∨ W + 95 ≤ o) → f o k = F o k) :
    ∃ f2, zK (zD (true, q) (d + 2) zc_Wor_changeOver) zEx zc_Wor_changeOver (zat zc_Wor_changeOver 51) [(18, W, 0), (0, l, 0), (13, W + 23 + 18 * l, 0), (0, x3, 0), (0, rGv g l, 0), v5] [] (zM (true, q) (d + 1) 5 [(13, W + 23 + 18 * l, 0)] (f, t)) = some ((0, rGv g l, 0), (f2, t)) ∧ zWL f2 W (rGoP g l) ∧ zGC f2 W (rGoP g l) ∧ ∀ o k, (o < W + 20 ∨ W + 95 ≤ o) → f2 o k = F o k := by
  obtain ⟨h_0, h_1, h_2, h_3, h_4, h_5, h_6, h_7, h_8, h_9, h_10, h_11, h_12, h_13, h_14, h_15, h_16⟩ := id hr
  obtain ⟨y1, y2, y3, y4, y5⟩ := zLI_go (N := N) hl hlm hm hr hL hI
  have hto := rGto_rng (g := g) (l := l) hl h_7.1 h_7.2 (by omega)
  have hwr : 0 ≤ rGw g l ∧ rGw g l < g 3 := by
    unfold rGw
    split <;> omega
  have eo : ∀ j, (j < 10 + 265 * l + 6 ∨ (10 + 265 * l + 8 ≤ j ∧ j < 10 + 265 * l + 17) ∨ 10 + 265 * l + 49 ≤ j) → rG2 g (10 + 265 * l) j = g j := fun j h => rG2_out h_7.1 h_7.2 h
  have b7 : rG2 g (10 + 265 * l) (10 + 265 * l + 7) = 0 := (zup1_ne (by omega)).trans (zup1_eq rfl)
  have b6 : rG2 g (10 + 265 * l) (10 + 265 * l + 6) = 0 := zup1_eq rfl
  have hw6 : 0 ≤ rG2 g (10 + 265 * l) (10 + 265 * rGw g l + 6) ∧ rG2 g (10 + 265 * l) (10 + 265 * rGw g l + 6) ≤ 96 := by
    by_cases c : rGw g l = l
    · rw [c, b6]
      decide
    · rw [eo _ (by omega)]
      exact (hI _ hwr.1 hwr.2 c).1.2.2.2.2.2.2.1
  have hrh := rAhead_rng (g := g) (B := 10 + 265 * l) (n := g (10 + 265 * l + 11)) h_7.1
  have e7 := rG1_7 (g := g) (B := 10 + 265 * l)
  have e6 := rG1_6 (g := g) (B := 10 + 265 * l) h_7.1
  have hk : 0 ≤ rGk g l ∧ rG2 g (10 + 265 * l) (10 + 265 * rGw g l + 6) + rGk g l ≤ 96 := by
    unfold rGk rWent
    split <;> omega
  have eH : ∀ j, (j < 10 ∨ (1070 ≤ j ∧ j < 1310)) → (rApp (rG2 g (10 + 265 * l)) (10 + 265 * rGw g l) (rGov (fun _ _ => 0) g (10 + 265 * l)) (rGk g l)) j = g j := fun j hj => by
    rw [rApp_out (by omega) (by omega), eo _ (by omega)]
  have eP : rGoP g l = rLog (rAnew (rApp (rG2 g (10 + 265 * l)) (10 + 265 * rGw g l) (rGov (fun _ _ => 0) g (10 + 265 * l)) (rGk g l)) (10 + 265 * l)) l 5 (rGv g l) := rfl
  have H2 : (rApp (rG2 g (10 + 265 * l)) (10 + 265 * rGw g l) (rGov (fun _ _ => 0) g (10 + 265 * l)) (rGk g l)) (10 + 265 * l + 2) = g (10 + 265 * l + 2) := by rw [rApp_out (by omega) (by omega), eo _ (by omega)]
  have H7 : (rApp (rG2 g (10 + 265 * l)) (10 + 265 * rGw g l) (rGov (fun _ _ => 0) g (10 + 265 * l)) (rGk g l)) (10 + 265 * l + 7) = 0 := by rw [rApp_out (by omega) (by omega), b7]
  have H6 : 0 ≤ (rApp (rG2 g (10 + 265 * l)) (10 + 265 * rGw g l) (rGov (fun _ _ => 0) g (10 + 265 * l)) (rGk g l)) (10 + 265 * l + 6) ∧ (rApp (rG2 g (10 + 265 * l)) (10 + 265 * rGw g l) (rGov (fun _ _ => 0) g (10 + 265 * l)) (rGk g l)) (10 + 265 * l + 6) ≤ 96 := by
    by_cases c : rGw g l = l
    · rw [c] at hw6 hk ⊢
      rw [rApp_6 hw6.1]
      omega
    · rw [rApp_out (by omega) (by omega), b6]
      decide
  generalize (rApp (rG2 g (10 + 265 * l)) (10 + 265 * rGw g l) (rGov (fun _ _ => 0) g (10 + 265 * l)) (rGk g l)) = H at *
  obtain ⟨f3, r3, h3, fr3⟩ := c_beginAnew' (q := q) (d := d) (σ := (f, t)) h_2.2 (by omega) (by omega) H6 hb
  have hrA : rLR (rAnew H (10 + 265 * l)) (10 + 265 * l) := rLR_eq (fun j h1 h2 => by rw [eP, rLog_out (by omega) (by omega)]) (y1 l hl hlm).1
  have fr3 : zFb (W + 23 + 18 * l) f f3 := fr3
  have eA : ∀ j, (j < 10 ∨ (1070 ≤ j ∧ j < 1310)) → rAnew H (10 + 265 * l) j = g j := fun j hj => (rAnew_out (by omega)).trans (eH j hj)
  have hG3 : zGC f3 W (rAnew H (10 + 265 * l)) := zGC_g eA g60 (zGC_b (by omega) fr3 g60 hGf)
  obtain ⟨f4, r4, h4, G4, fr4⟩ := c_log (q := q) (d := d) (σ := (f3, t)) (l := l) (w := 5) (v := rGv g l) (by omega) (by omega) (by omega) h_2.2 hrA (by rw [eA 8 (by omega)]; exact g0) (by rw [eA 8 (by omega)]; exact g60) hG3.2.2.1 h3 hG3
  have fr4 : ∀ o k, o ≠ W + 20 → o ≠ W + 21 → f4 o k = f3 o k := fr4
  refine ⟨f4, ?_, fun o o0 o1 => ?_, ?_, fun o k ho => ?_⟩
  · rw [r3, zK_v, zb_Wor_changeOver_51]
    show zK _ _ _ _ _ _ (zM (true, q) (d + 1) 113 [(11, W + 20, 0), (0, f3 W 6, 0), (0, l, 0), (0, 5, 0), (0, rGv g l, 0)] (f3, t)) = _
    rw [r4, zK_v, zb_Wor_changeOver_59]
  · have e33 : rGoP g l 3 = g 3 := y2 3 (by omega)
    by_cases c : o = l
    · subst c
      have e2 : rGoP g o (10 + 265 * o + 2) = g (10 + 265 * o + 2) := by
        rw [eP, rLog_out (by omega) (by omega), rAnew_lo (by omega), H2]
      rw [e2, eP]
      exact h4
    · rw [y3 o 2 o0 (by omega) c (by decide) (by decide) (by decide)]
      have ro : ∀ j, 10 + 265 * o ≤ j → j < 10 + 265 * o + 265 → rGoP g l j = H j := fun j h1 h2 => by
        rw [eP, rLog_out (by omega) (by omega), rAnew_out (by omega)]
      have hrH : rLR H (10 + 265 * o) := rLR_eq (fun j h1 h2 => (ro j h1 h2).symm) (y1 o o0 (by omega)).1
      have n4 := (hI o o0 (by omega) c).1.2.2.1.2
      refine zLC_eq (fun j h1 h2 => ro j h1 h2) hrH n4 (zLC_fr (fun a k a1 a2 => ?_) (hO o o0 (by omega) c))
      rw [fr4 a k (by omega) (by omega), fr3 a k (by omega)]
  · rw [eP]
    exact G4
  · rw [fr4 o k (by omega) (by omega), fr3 o k (by omega)]
    exact fr o k (by omega)
theorem c_changeOver {q : Int × (Int → Int)} {d : Nat} {σ : zS} {N W l : Int} {g : Int → Int} (hl : 0 ≤ l) (hlm : l < g 3) (hm : g 3 ≤ 4) (hr : rLR g (10 + 265 * l)) (hL : rLL g (10 + 265 * l)) (hI : ∀ o, 0 ≤ o → o < g 3 → o ≠ l → zIL N g (10 + 265 * o)) (g0 : 0 ≤ g 8) (g60 : g 8 ≤ 60) (hG : zGC σ.1 W g) (hW : zWL σ.1 W g) : ∃ f2, zM (true, q) (d + 3) 133 [(18, W, 0), (0, l, 0)] σ = some ((0, rGv g l, 0), (f2, σ.2)) ∧ zWL f2 W (rGoP g l) ∧ zGC f2 W (rGoP g l) ∧ ∀ o k, (o < W + 20 ∨ W + 95 ≤ o) → f2 o k = σ.1 o k := by
  obtain ⟨h_0, h_1, h_2, h_3, h_4, h_5, h_6, h_7, h_8, h_9, h_10, h_11, h_12, h_13, h_14, h_15, h_16⟩ := id hr
  have hl4 : l < 4 := by omega
  have h := hW l hl hlm
  have f13 := zc_f13 h
  have hk7 : ∀ o, 0 ≤ o → o < g 3 → 0 ≤ g (10 + 265 * o + 7) ∧ g (10 + 265 * o + 7) ≤ 8 ∧ 0 ≤ g (10 + 265 * o + 6) ∧ g (10 + 265 * o + 6) ≤ 96 := by
    intro o o0 o1
    by_cases c : o = l
    · subst c
      exact ⟨h_7.1, h_7.2, h_6.1, h_6.2⟩
    · have z := (hI o o0 o1 c).1
      exact ⟨z.2.2.2.2.2.2.2.1.1, z.2.2.2.2.2.2.2.1.2, z.2.2.2.2.2.2.1.1, z.2.2.2.2.2.2.1.2⟩
  have hto := rGto_rng (g := g) (l := l) hl h_7.1 h_7.2 (by omega)
  have hfe := c_fewest (q := q) (d := d + 1) (σ := σ) (W := W) (l := l) hG.1 (by omega) hm hW hk7
  rw [← rGto_eq hl h_7.1 h_7.2] at hfe
  have hrh := rAhead_rng (g := g) (B := 10 + 265 * l) (n := g (10 + 265 * l + 11)) h_7.1
  have htl := c_told (q := q) (d := d + 1) (m := g (10 + 265 * l + 11)) h h_7
  obtain ⟨f1, r1, h1, fr1⟩ := c_drop (q := q) (d := d + 1) h hrh.1 hrh.2 h_7.2 h_2.2
  have h1 : zLC (g (10 + 265 * l + 2)) f1 (W + 23 + 18 * l) (rG1 g (10 + 265 * l)) (10 + 265 * l) := h1
  have e7 := rG1_7 (g := g) (B := 10 + 265 * l)
  have e6 := rG1_6 (g := g) (B := 10 + 265 * l) h_7.1
  have eo : ∀ j, (j < 10 + 265 * l + 6 ∨ (10 + 265 * l + 8 ≤ j ∧ j < 10 + 265 * l + 17) ∨ 10 + 265 * l + 49 ≤ j) → rG2 g (10 + 265 * l) j = g j := fun j h => rG2_out h_7.1 h_7.2 h
  have b7 : rG2 g (10 + 265 * l) (10 + 265 * l + 7) = 0 := (zup1_ne (by omega)).trans (zup1_eq rfl)
  have b6 : rG2 g (10 + 265 * l) (10 + 265 * l + 6) = 0 := zup1_eq rfl
  have eo1 : ∀ j, (j < 17 ∨ 49 ≤ j) → j ≠ 7 → rG1 g (10 + 265 * l) (10 + 265 * l + j) = g (10 + 265 * l + j) := fun j _ _ => rLeaves_out (by omega) (by omega)
  have hov : ∀ i c, 0 ≤ i → i < rG1 g (10 + 265 * l) (10 + 265 * l + 7) + rG1 g (10 + 265 * l) (10 + 265 * l + 6) → 0 ≤ c → c < 2 → (rGov (fun _ _ => 0) g (10 + 265 * l)) (2 * i + c) = if i < rG1 g (10 + 265 * l) (10 + 265 * l + 7) then f1 (W + 23 + 18 * l + (7 + c)) i else f1 (W + 23 + 18 * l + (2 + c)) (i - rG1 g (10 + 265 * l) (10 + 265 * l + 7)) := by
    intro i c i0 i1 c0 c2
    rw [rGov_at h_7.1 h_7.2 i0 i1 c0 c2]
    unfold rOe
    by_cases ci : i < rG1 g (10 + 265 * l) (10 + 265 * l + 7)
    · rw [if_pos ci, if_pos ci, h1.2.2.2.1 i c i0 ci c0 (by omega)]
      exact (rLeaves_in hrh.1 i0 (by omega) c0 (by omega)).symm
    · rw [if_neg ci, if_neg ci, h1.2.2.2.2.1 _ c (by omega) (by omega) c0 c2]
      exact (eo1 _ (by omega) (by omega)).symm
  have k1 : f1 (W + 23 + 18 * l + 1) 4 = rG1 g (10 + 265 * l) (10 + 265 * l + 6) := h1.2.1
  have k6 : f1 (W + 23 + 18 * l + 6) 4 = rG1 g (10 + 265 * l) (10 + 265 * l + 7) := h1.2.2.1
  have run : zM (true, q) (d + 3) 133 [(18, W, 0), (0, l, 0)] σ = zD (true, q) (d + 3) zc_Wor_changeOver (zat zc_Wor_changeOver 17) [(18, W, 0), (0, l, 0), (13, W + 23 + 18 * l, 0), (0, rGto g l, 0), (0, 0, 0), (2, 0, 0)] [] (f1, σ.2) := by
    rw [ze_Wor_changeOver, zb_Wor_changeOver_0, c_lineAt hl hl4]
    show zD (true, q) (d + 2 + 1) zc_Wor_changeOver (zat zc_Wor_changeOver 3) _ [(13, W + 23 + 18 * l, 0)] σ = _
    rw [zb_Wor_changeOver_3, hfe, zK_i, zb_Wor_changeOver_7, f13, htl, zK_i, zb_Wor_changeOver_16, r1, zK_v]
  rw [run, zb_Wor_changeOver_17]
  have others : ∀ o, 0 ≤ o → o < g 3 → o ≠ l → zLC (g (10 + 265 * o + 2)) f1 (W + 23 + 18 * o) (rG2 g (10 + 265 * l)) (10 + 265 * o) := fun o o0 o1 ol => zLC_eq (fun j a1 a2 => eo j (by omega)) (hI o o0 o1 ol).1 (hI o o0 o1 ol).1.2.2.1.2 (zLC_fb fr1 (by omega) (hW o o0 o1))
  by_cases c : rGto g l = -1
  · have ew : rGw g l = l := by
      unfold rGw
      rw [if_pos c]
    have ev : rGv g l = 0 := by
      unfold rGv
      rw [if_pos c]
    have ek : rGk g l = if rG1 g (10 + 265 * l) (10 + 265 * l + 7) + rG1 g (10 + 265 * l) (10 + 265 * l + 6) ≤ 96 then rG1 g (10 + 265 * l) (10 + 265 * l + 7) + rG1 g (10 + 265 * l) (10 + 265 * l + 6) else 96 := by
      unfold rGk rWent
      rw [ew, b6]
      rfl
    obtain ⟨f2, r2, p2, s2, fr2⟩ := l_putAhead (q := q) (d := d + 1) (b := W + 23 + 18 * l) (m := rG1 g (10 + 265 * l) (10 + 265 * l + 7)) (q0 := rG1 g (10 + 265 * l) (10 + 265 * l + 6)) (F := f1) (t := σ.2) (by omega) (by omega) (by omega) (by omega) (rG1 g (10 + 265 * l) (10 + 265 * l + 7)).toNat 0 f1 (by decide) (by omega) (fun p p0 p9 => by rw [if_neg (by omega), if_neg (by omega), Int.sub_zero]; exact ⟨rfl, rfl⟩) (by rw [Int.add_zero, if_pos (by omega)]; exact k1) (fun _ _ _ _ _ => rfl)
    have rp : zM (true, q) (d + 2) 131 [(16, W + 23 + 18 * l + 1, 96), (16, W + 23 + 18 * l + 6, 8)] (f1, σ.2) = some ((9, 0, 0), (f2, σ.2)) := by
      rw [ze_Uni_putAhead, zb_Uni_putAhead_0, zw_id (show -2147483648 ≤ f1 (W + 23 + 18 * l + 6) 4 - 1 by omega) (show f1 (W + 23 + 18 * l + 6) 4 - 1 < 2147483648 by omega)]
      show zD _ _ _ _ [_, _, (0, f1 (W + 23 + 18 * l + 6) 4 - 1, 0)] [] _ = _
      rw [k6]
      rw [Int.sub_zero] at r2
      exact r2
    have hH : zLC (g (10 + 265 * l + 2)) (zup f2 (W + 23 + 18 * l + 6) 4 0) (W + 23 + 18 * l) (rApp (rG2 g (10 + 265 * l)) (10 + 265 * rGw g l) (rGov (fun _ _ => 0) g (10 + 265 * l)) (rGk g l)) (10 + 265 * l) := by
      rw [ew]
      obtain ⟨z1, z2, z3, z4, z5, z6, z7⟩ := h1
      have eH : ∀ j, (j < 17 ∨ (49 ≤ j ∧ j < 73)) → j ≠ 6 → j ≠ 7 → rApp (rG2 g (10 + 265 * l)) (10 + 265 * l) (rGov (fun _ _ => 0) g (10 + 265 * l)) (rGk g l) (10 + 265 * l + j) = rG1 g (10 + 265 * l) (10 + 265 * l + j) := fun j _ _ _ => by
        rw [rApp_out (by omega) (by omega), eo _ (by omega), eo1 _ (by omega) (by omega)]
      have eH6 : rApp (rG2 g (10 + 265 * l)) (10 + 265 * l) (rGov (fun _ _ => 0) g (10 + 265 * l)) (rGk g l) (10 + 265 * l + 6) = rGk g l := by
        rw [rApp_6 (by omega), b6, Int.zero_add]
      have eH7 : rApp (rG2 g (10 + 265 * l)) (10 + 265 * l) (rGov (fun _ _ => 0) g (10 + 265 * l)) (rGk g l) (10 + 265 * l + 7) = 0 := by
        rw [rApp_out (by omega) (by omega), b7]
      have kk : rGk g l ≤ rG1 g (10 + 265 * l) (10 + 265 * l + 7) + rG1 g (10 + 265 * l) (10 + 265 * l + 6) ∧ rGk g l ≤ 96 := by
        rw [ek]
        split <;> omega
      refine ⟨fun cc c0 c1 => ?_, ?_, ?_, fun k cc k0 k1 c0 c1 => ?_, fun k cc k0 k1 c0 c1 => ?_, fun k k0 k1 => ?_, fun k k0 k1 => ?_⟩
      · rw [eH _ (by unfold zfm; split <;> omega) (by unfold zfm; split <;> omega) (by unfold zfm; split <;> omega), ← z1 cc c0 c1, zup_na (by omega)]
        exact fr2 _ _ (by omega) (by omega) (by omega)
      · rw [eH6, zup_na (by omega), s2, ek, Int.add_comm]
      · rw [eH7, zupE rfl rfl]
      · rw [eH7] at k1
        omega
      · rw [eH6] at k1
        have ap := rApp_in (h := rG2 g (10 + 265 * l)) (B := 10 + 265 * l) (n := rGk g l) (k := k) (c := cc) (ov := (rGov (fun _ _ => 0) g (10 + 265 * l))) (by omega) k0 k1 c0 c1
        rw [b6, Int.zero_add] at ap
        rw [ap, hov k cc k0 (by omega) c0 c1]
        have pp := p2 k k0 (by omega)
        rcases (by omega : cc = 0 ∨ cc = 1) with rfl | rfl
        · rw [zup_na (by omega)]
          exact pp.1
        · rw [zup_na (by omega)]
          exact pp.2
      · rw [eH _ (by omega) (by omega) (by omega), eH _ (by omega) (by omega) (by omega), eH _ (by omega) (by omega) (by omega), eH _ (by omega) (by omega) (by omega), eH _ (by omega) (by omega) (by omega), zup_na (by omega), zup_na (by omega), zup_na (by omega), zup_na (by omega), zup_na (by omega), fr2 _ _ (by omega) (by omega) (by omega), fr2 _ _ (by omega) (by omega) (by omega), fr2 _ _ (by omega) (by omega) (by omega), fr2 _ _ (by omega) (by omega) (by omega), fr2 _ _ (by omega) (by omega) (by omega)]
        exact z6 k k0 k1
      · rw [eH 2 (by omega) (by omega) (by omega)] at k1
        have := eo1 2 (by omega) (by omega)
        rw [eH _ (by omega) (by omega) (by omega), zup_na (by omega), fr2 _ _ (by omega) (by omega) (by omega)]
        exact z7 k k0 k1
    have fB : zFb (W + 23 + 18 * l) f1 (zup f2 (W + 23 + 18 * l + 6) 4 0) := fun o k ho => by
      rw [zup_na (by omega)]
      exact fr2 o k (by omega) (by omega) (by omega)
    obtain ⟨f9, r9, x9⟩ := c_over9 (q := q) (d := d + 1) (N := N) (W := W) (l := l) (x3 := rGto g l) (F := σ.1) (t := σ.2) (v5 := (2, 0, 0)) (zup f2 (W + 23 + 18 * l + 6) 4 0) hl hlm hm hr hL hI g0 g60 (zGC_b (by omega) (zFb_trans fr1 fB) g60 hG) hH (fun o o0 o1 ol => by
      rw [ew]
      exact zLC_eq (fun j a1 a2 => rApp_out (by omega) (by rw [b6]; omega)) (rLR_eq (fun j a1 a2 => eo j (by omega)) (hI o o0 o1 ol).1) (hI o o0 o1 ol).1.2.2.1.2 (zLC_fb fB (by omega) (others o o0 o1 ol))) (fun o k ho => ((zFb_trans fr1 fB) o k (by omega)))
    refine ⟨f9, ?_, x9⟩
    rw [if_neg (fun z => z c), zb_Wor_changeOver_20, rp, zK_v, zb_Wor_changeOver_25]
    rw [ev] at r9 ⊢
    exact r9
  · have ew : rGw g l = rGto g l := by
      unfold rGw
      rw [if_neg c]
    have ev : rGv g l = rGk g l := by
      unfold rGv
      rw [if_neg c]
    have hw : 0 ≤ rGto g l ∧ rGto g l < g 3 ∧ rGto g l ≠ l := by omega
    have iw := hI _ hw.1 hw.2.1 hw.2.2
    have hq6 : rG2 g (10 + 265 * l) (10 + 265 * rGto g l + 6) = g (10 + 265 * rGto g l + 6) := eo _ (by omega)
    have hq7 : rG2 g (10 + 265 * l) (10 + 265 * rGto g l + 7) = g (10 + 265 * rGto g l + 7) := eo _ (by omega)
    have hq2 : rG2 g (10 + 265 * l) (10 + 265 * rGto g l + 2) = g (10 + 265 * rGto g l + 2) := eo _ (by omega)
    have q6 := iw.1.2.2.2.2.2.2.1
    have q7 := iw.1.2.2.2.2.2.2.2.1
    have q2 := iw.1.2.2.1
    have ek : rGk g l = if rG1 g (10 + 265 * l) (10 + 265 * l + 7) + rG1 g (10 + 265 * l) (10 + 265 * l + 6) ≤ 96 - g (10 + 265 * rGto g l + 6) then rG1 g (10 + 265 * l) (10 + 265 * l + 7) + rG1 g (10 + 265 * l) (10 + 265 * l + 6) else 96 - g (10 + 265 * rGto g l + 6) := by
      unfold rGk rWent
      rw [ew, hq6]
    have ow := others _ hw.1 hw.2.1 hw.2.2
    obtain ⟨f2, r2, h2, fr2⟩ := c_addAll (q := q) (d := d) (σ := (f1, σ.2)) (n := g (10 + 265 * rGto g l + 2)) (b := W + 23 + 18 * rGto g l) (u := W + 23 + 18 * l + 6) (y := 8) (m := rG1 g (10 + 265 * l) (10 + 265 * l + 7)) (k0 := 0) (H := rG2 g (10 + 265 * l)) (ov := (rGov (fun _ _ => 0) g (10 + 265 * l))) (B := 10 + 265 * rGto g l) q2.2 (by omega) (by omega) (by omega) (by decide) (by omega) (by omega) (by omega) (by omega) (by omega) k6 (fun i i0 i1 i2 => by
      have a0 := hov i 0 i0 (by omega) (by decide) (by decide)
      have a1 := hov i 1 i0 (by omega) (by decide) (by decide)
      rw [if_pos i1] at a0 a1
      rw [show 2 * i + 0 = 2 * i by omega] at a0
      rw [Int.zero_add, show W + 23 + 18 * l + 6 + 1 = W + 23 + 18 * l + (7 + 0) by omega, show W + 23 + 18 * l + 6 + 2 = W + 23 + 18 * l + (7 + 1) by omega]
      exact ⟨a0.symm, a1.symm⟩) (by rw [rApp_0]; exact ow)
    rw [Int.sub_zero, Int.zero_add, hq6] at h2
    rw [Int.sub_zero, hq6] at r2
    obtain ⟨k0, hk0⟩ : ∃ x, (if rG1 g (10 + 265 * l) (10 + 265 * l + 7) ≤ 96 - g (10 + 265 * rGto g l + 6) then rG1 g (10 + 265 * l) (10 + 265 * l + 7) else 96 - g (10 + 265 * rGto g l + 6)) = x := ⟨_, rfl⟩
    rw [hk0] at h2 r2
    have k0r : 0 ≤ k0 ∧ g (10 + 265 * rGto g l + 6) + k0 ≤ 96 := by
      rw [← hk0]
      split <;> omega
    have fr2 : zFb (W + 23 + 18 * rGto g l) f1 f2 := fr2
    obtain ⟨f3, r3, h3, fr3⟩ := c_addAll (q := q) (d := d) (σ := (f2, σ.2)) (n := g (10 + 265 * rGto g l + 2)) (b := W + 23 + 18 * rGto g l) (u := W + 23 + 18 * l + 1) (y := 96) (m := rG1 g (10 + 265 * l) (10 + 265 * l + 6)) (k0 := k0) (H := rG2 g (10 + 265 * l)) (ov := (rGov (fun _ _ => 0) g (10 + 265 * l))) (B := 10 + 265 * rGto g l) q2.2 (by omega) (by omega) (by omega) k0r.1 (by omega) (by omega) (by omega) (by omega) (by omega) ((fr2 _ _ (by omega)).trans k1) (fun i i0 i1 i2 => by
      have ek0 : k0 = rG1 g (10 + 265 * l) (10 + 265 * l + 7) := by
        rw [hq6] at i2
        rw [← hk0] at i2 ⊢
        split at i2 <;> split <;> omega
      have a0 := hov (k0 + i) 0 (by omega) (by omega) (by decide) (by decide)
      have a1 := hov (k0 + i) 1 (by omega) (by omega) (by decide) (by decide)
      rw [if_neg (by omega), show k0 + i - rG1 g (10 + 265 * l) (10 + 265 * l + 7) = i by omega] at a0 a1
      rw [show 2 * (k0 + i) + 0 = 2 * (k0 + i) by omega] at a0
      rw [show W + 23 + 18 * l + 1 + 1 = W + 23 + 18 * l + (2 + 0) by omega, show W + 23 + 18 * l + 1 + 2 = W + 23 + 18 * l + (2 + 1) by omega]
      exact ⟨(fr2 _ _ (by omega)).trans a0.symm, (fr2 _ _ (by omega)).trans a1.symm⟩) h2
    have ek2 : k0 + (if rG1 g (10 + 265 * l) (10 + 265 * l + 6) ≤ 96 - rG2 g (10 + 265 * l) (10 + 265 * rGto g l + 6) - k0 then rG1 g (10 + 265 * l) (10 + 265 * l + 6) else 96 - rG2 g (10 + 265 * l) (10 + 265 * rGto g l + 6) - k0) = rGk g l := by
      rw [ek, hq6, ← hk0]
      split <;> split <;> split <;> omega
    rw [ek2] at h3
    have fr3 : zFb (W + 23 + 18 * rGto g l) f2 f3 := fr3
    have hb2 : zLC (g (10 + 265 * l + 2)) (zup (zup f3 (W + 23 + 18 * l + 1) 4 0) (W + 23 + 18 * l + 6) 4 0) (W + 23 + 18 * l) (rApp (rG2 g (10 + 265 * l)) (10 + 265 * rGw g l) (rGov (fun _ _ => 0) g (10 + 265 * l)) (rGk g l)) (10 + 265 * l) := by
      rw [ew]
      have z := zLC_fb fr3 (by omega) (zLC_fb fr2 (by omega) h1)
      obtain ⟨z1, z2, z3, z4, z5, z6, z7⟩ := z
      have eH : ∀ j, 0 ≤ j → (j < 17 ∨ (49 ≤ j ∧ j < 73)) → j ≠ 6 → j ≠ 7 → rApp (rG2 g (10 + 265 * l)) (10 + 265 * rGto g l) (rGov (fun _ _ => 0) g (10 + 265 * l)) (rGk g l) (10 + 265 * l + j) = rG1 g (10 + 265 * l) (10 + 265 * l + j) := fun j _ _ _ _ => by
        have := rGk_le (g := g) (l := l)
        have : rGk g l ≤ 96 - g (10 + 265 * rGto g l + 6) := by rw [ek]; split <;> omega
        rw [rApp_out (by omega) (by omega), eo _ (by omega), eo1 _ (by omega) (by omega)]
      have hle : rGk g l ≤ 96 - g (10 + 265 * rGto g l + 6) := by rw [ek]; split <;> omega
      have eH6 : rApp (rG2 g (10 + 265 * l)) (10 + 265 * rGto g l) (rGov (fun _ _ => 0) g (10 + 265 * l)) (rGk g l) (10 + 265 * l + 6) = 0 := by
        rw [rApp_out (by omega) (by omega), b6]
      have eH7 : rApp (rG2 g (10 + 265 * l)) (10 + 265 * rGto g l) (rGov (fun _ _ => 0) g (10 + 265 * l)) (rGk g l) (10 + 265 * l + 7) = 0 := by
        rw [rApp_out (by omega) (by omega), b7]
      refine ⟨fun cc c0 c1 => ?_, ?_, ?_, fun k cc k0 k1 c0 c1 => ?_, fun k cc k0 k1 c0 c1 => ?_, fun k k0 k1 => ?_, fun k k0 k1 => ?_⟩
      · rw [eH _ (by unfold zfm; split <;> omega) (by unfold zfm; split <;> omega) (by unfold zfm; split <;> omega) (by unfold zfm; split <;> omega), ← z1 cc c0 c1, zup_na (by omega), zup_na (by omega)]
      · rw [eH6, zup_na (by omega), zupE rfl rfl]
      · rw [eH7, zupE rfl rfl]
      · rw [eH7] at k1
        omega
      · rw [eH6] at k1
        omega
      · rw [eH _ (by omega) (by omega) (by omega) (by omega), eH _ (by omega) (by omega) (by omega) (by omega), eH _ (by omega) (by omega) (by omega) (by omega), eH _ (by omega) (by omega) (by omega) (by omega), eH _ (by omega) (by omega) (by omega) (by omega)]
        simp (disch := omega) only [zup_na]
        exact z6 k k0 k1
      · rw [eH 2 (by omega) (by omega) (by omega) (by omega)] at k1
        have := eo1 2 (by omega) (by omega)
        rw [eH _ (by omega) (by omega) (by omega) (by omega), zup_na (by omega), zup_na (by omega)]
        exact z7 k k0 k1
    have fB : ∀ o k, (o < W + 23 ∨ W + 95 ≤ o) → zup (zup f3 (W + 23 + 18 * l + 1) 4 0) (W + 23 + 18 * l + 6) 4 0 o k = σ.1 o k := fun o k ho => by
      rw [zup_na (by omega), zup_na (by omega), fr3 _ _ (by omega), fr2 _ _ (by omega)]
      exact fr1 o k (by omega)
    obtain ⟨f9, r9, x9⟩ := c_over9 (q := q) (d := d + 1) (N := N) (W := W) (l := l) (x3 := rGto g l) (F := σ.1) (t := σ.2) (v5 := (16, W + 23 + 18 * rGto g l + 1, 96)) (zup (zup f3 (W + 23 + 18 * l + 1) 4 0) (W + 23 + 18 * l + 6) 4 0) hl hlm hm hr hL hI g0 g60 (zGC_fr (fun k => fB _ _ (by omega)) (fun k => fB _ _ (by omega)) (fun k => fB _ _ (by omega)) (fun _ _ => rfl) g60 hG) hb2 (fun o o0 o1 ol => by
      rw [ew]
      have hle : rGk g l ≤ 96 - g (10 + 265 * rGto g l + 6) := by rw [ek]; split <;> omega
      have hfr : ∀ a k, W + 23 + 18 * o ≤ a → a < W + 23 + 18 * o + 18 → zup (zup f3 (W + 23 + 18 * l + 1) 4 0) (W + 23 + 18 * l + 6) 4 0 a k = f3 a k := fun a k a1 a2 => by rw [zup_na (by omega), zup_na (by omega)]
      by_cases cw : o = rGto g l
      · subst cw
        exact zLC_fr hfr h3
      · exact zLC_eq (fun j a1 a2 => rApp_out (by omega) (by omega)) (rLR_eq (fun j a1 a2 => eo j (by omega)) (hI o o0 o1 ol).1) (hI o o0 o1 ol).1.2.2.1.2 (zLC_fr hfr (zLC_fb fr3 (by omega) (zLC_fb fr2 (by omega) (others o o0 o1 ol))))) fB
    refine ⟨f9, ?_, x9⟩
    rw [if_pos c, zb_Wor_changeOver_26, c_lineAt hw.1 (by omega)]
    show zD (true, q) (d + 2 + 1) zc_Wor_changeOver (zat zc_Wor_changeOver 29) _ [(13, W + 23 + 18 * rGto g l, 0)] (f1, σ.2) = _
    rw [zb_Wor_changeOver_29, r2]
    show zD (true, q) (d + 2 + 1) zc_Wor_changeOver (zat zc_Wor_changeOver 35) _ [(0, k0, 0)] (f2, σ.2) = _
    rw [zb_Wor_changeOver_35, r3, zK_i, zb_Wor_changeOver_39]
    have kr : 0 ≤ rGk g l ∧ rGk g l ≤ 96 := by rw [ek]; split <;> omega
    rw [ek2, zw_id (by omega) (by omega)]
    rw [ev] at r9 ⊢
    exact r9
