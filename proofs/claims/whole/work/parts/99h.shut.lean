/-! ## start, shut, tune -/
theorem zIL_z {N : Int} {g : Int → Int} {B r : Int} (h12 : 12 ≤ r) (h16 : r ≤ 16) (h : zIL N g B) : zIL N (zup1 g (B + r) 0) B := by
  obtain ⟨hr, hL, hH, hA, hN⟩ := h
  have e0 : ∀ j hi, 0 ≤ hi → 0 ≤ g (B + j) ∧ g (B + j) ≤ hi → 0 ≤ zup1 g (B + r) 0 (B + j) ∧ zup1 g (B + r) 0 (B + j) ≤ hi := fun j hi h0 h1 => by
    by_cases c : j = r
    · rw [c, zup1_eq rfl]
      exact ⟨Int.le_refl 0, h0⟩
    · rw [zup1_ne (by omega)]
      exact h1
  refine ⟨?_, ?_, ?_, fun k k0 k1 => ?_, fun k k0 k1 => ?_⟩
  · obtain ⟨h_0, h_1, h_2, h_3, h_4, h_5, h_6, h_7, h_8, h_9, h_10, h_11, h_12, h_13, h_14, h_15, h_16⟩ := hr
    refine ⟨?_, ?_, ?_, ?_, ?_, ?_, ?_, ?_, ?_, ?_, ?_, ?_, e0 12 99 (by decide) h_12, e0 13 7 (by decide) h_13, e0 14 7 (by decide) h_14, e0 15 7 (by decide) h_15, e0 16 2 (by decide) h_16⟩ <;> rw [zup1_ne (by omega)] <;> assumption
  · unfold rLL at hL ⊢
    rw [zup1_ne (show B + 7 ≠ B + r by omega), zup1_ne (show B + 6 ≠ B + r by omega)]
    exact ⟨fun k k0 k1 => by rw [zup1_ne (by omega)]; exact hL.1 k k0 k1, fun k k0 k1 => by rw [zup1_ne (by omega)]; exact hL.2 k k0 k1⟩
  · unfold zLH at hH ⊢
    simp (disch := omega) only [zup1_ne]
    exact hH
  · simp (disch := omega) only [zup1_ne]
    exact hA k k0 k1
  · rw [zup1_ne (show B + 7 ≠ B + r by omega)] at k1
    simp (disch := omega) only [zup1_ne]
    exact hN k k0 k1
/-! ### bits -/
def bS (v : Int) : Nat → Int → Int → Int
  | 0, _, acc => acc
  | k + 1, i, acc => bS v k (i + 1) (zw (acc + zand (zshr v i) 1))
theorem r_bits {q : Int × (Int → Int)} {d : Nat} {σ : zS} {v : Int} : zM (true, q) d 197 [(0, v, 0)] σ = some ((0, bS v 31 0 0, 0), σ) := by
  have loop : ∀ (k : Nat) (i acc : Int), 0 ≤ i → i + k = 31 → zD (true, q) d zc_M_bits (zat zc_M_bits 4) [(0, v, 0), (0, acc, 0), (0, i, 0)] [] σ = some ((0, bS v k i acc, 0), σ) := by
    intro k
    induction k with
    | zero =>
      intro i acc i0 hi
      rw [zb_M_bits_4, if_pos (by omega), zb_M_bits_17]
      rfl
    | succ k ih =>
      intro i acc i0 hi
      rw [zb_M_bits_4, if_neg (by omega), zb_M_bits_7, zw_id (z := i + 1) (by omega) (by omega)]
      exact ih (i + 1) _ (by omega) (by omega)
  rw [ze_M_bits, zb_M_bits_0]
  exact loop 31 0 0 (by decide) rfl
def zPoc (x0 : Int) : Int := zand (zw ((zw ((zand (zw ((zw ((zand (zw (x0 - (zand (zushr x0 1) 1431655765))) 858993459) + (zand (zushr (zw (x0 - (zand (zushr x0 1) 1431655765))) 2) 858993459))) + (zushr (zw ((zand (zw (x0 - (zand (zushr x0 1) 1431655765))) 858993459) + (zand (zushr (zw (x0 - (zand (zushr x0 1) 1431655765))) 2) 858993459))) 4))) 252645135) + (zushr (zand (zw ((zw ((zand (zw (x0 - (zand (zushr x0 1) 1431655765))) 858993459) + (zand (zushr (zw (x0 - (zand (zushr x0 1) 1431655765))) 2) 858993459))) + (zushr (zw ((zand (zw (x0 - (zand (zushr x0 1) 1431655765))) 858993459) + (zand (zushr (zw (x0 - (zand (zushr x0 1) 1431655765))) 2) 858993459))) 4))) 252645135) 8))) + (zushr (zw ((zand (zw ((zw ((zand (zw (x0 - (zand (zushr x0 1) 1431655765))) 858993459) + (zand (zushr (zw (x0 - (zand (zushr x0 1) 1431655765))) 2) 858993459))) + (zushr (zw ((zand (zw (x0 - (zand (zushr x0 1) 1431655765))) 858993459) + (zand (zushr (zw (x0 - (zand (zushr x0 1) 1431655765))) 2) 858993459))) 4))) 252645135) + (zushr (zand (zw ((zw ((zand (zw (x0 - (zand (zushr x0 1) 1431655765))) 858993459) + (zand (zushr (zw (x0 - (zand (zushr x0 1) 1431655765))) 2) 858993459))) + (zushr (zw ((zand (zw (x0 - (zand (zushr x0 1) 1431655765))) 858993459) + (zand (zushr (zw (x0 - (zand (zushr x0 1) 1431655765))) 2) 858993459))) 4))) 252645135) 8))) 16))) 63
theorem c_bits {q : Int × (Int → Int)} {d : Nat} {σ : zS} {v : Int} : zM (true, q) d 193 [(0, v, 0)] σ = some ((0, zPoc v, 0), σ) := by
  rw [ze_Int_bitCount, zb_Int_bitCount_0]
  rfl
theorem zPc_bS {v : Int} (h : 0 ≤ v ∧ v < 16) : zPoc v = bS v 31 0 0 := by
  rcases (by omega : v = 0 ∨ v = 1 ∨ v = 2 ∨ v = 3 ∨ v = 4 ∨ v = 5 ∨ v = 6 ∨ v = 7 ∨ v = 8 ∨ v = 9 ∨ v = 10 ∨ v = 11 ∨ v = 12 ∨ v = 13 ∨ v = 14 ∨ v = 15) with rfl | rfl | rfl | rfl | rfl | rfl | rfl | rfl | rfl | rfl | rfl | rfl | rfl | rfl | rfl | rfl <;> decide +kernel
theorem zor_16 {x y : Int} (h : 0 ≤ x ∧ x < 16) (h2 : y = 0 ∨ y = 1 ∨ y = 2 ∨ y = 4 ∨ y = 8) : 0 ≤ zor x y ∧ zor x y < 16 := by
  rcases h2 with rfl | rfl | rfl | rfl | rfl <;> rcases (by omega : x = 0 ∨ x = 1 ∨ x = 2 ∨ x = 3 ∨ x = 4 ∨ x = 5 ∨ x = 6 ∨ x = 7 ∨ x = 8 ∨ x = 9 ∨ x = 10 ∨ x = 11 ∨ x = 12 ∨ x = 13 ∨ x = 14 ∨ x = 15) with rfl | rfl | rfl | rfl | rfl | rfl | rfl | rfl | rfl | rfl | rfl | rfl | rfl | rfl | rfl | rfl <;> decide +kernel
theorem gIn_16 {g : Int → Int} {s : Int} : ∀ (k : Nat) (i acc : Int), 0 ≤ i → i + k ≤ 4 → 0 ≤ acc ∧ acc < 16 → 0 ≤ gIn g s k i acc ∧ gIn g s k i acc < 16 := by
  intro k
  induction k with
  | zero => intro i acc _ _ h; exact h
  | succ k ih =>
    intro i acc i0 hi h
    refine ih (i + 1) _ (by omega) (by omega) (zor_16 h ?_)
    split
    · rcases (by omega : i = 0 ∨ i = 1 ∨ i = 2 ∨ i = 3) with rfl | rfl | rfl | rfl
      · exact Or.inr (Or.inl (by decide +kernel))
      · exact Or.inr (Or.inr (Or.inl (by decide +kernel)))
      · exact Or.inr (Or.inr (Or.inr (Or.inl (by decide +kernel))))
      · exact Or.inr (Or.inr (Or.inr (Or.inr (by decide +kernel))))
    · exact Or.inl rfl
/-! ### start -/
def gSt (g : Int → Int) (B : Int) : Int → Int := zup1 (zup1 (zup1 (zup1 (zup1 (zup1 g (B + 0) 1) (B + 14) 0) (B + 15) 0) (B + 16) 0) (B + 12) 0) (B + 13) 0
theorem o_start {q : Int × (Int → Int)} {N : Int} {f : Int → Int → Int} {t : (Int → Int) × Nat × Nat × Nat × (Int → Int → Bool)} {l : Int} (hR : ZR N f f) : zOw q (N + 240) f t 195 [(19, 0, 0), (0, l, 0), (31, 1478, 1)] 198 [(20, 1464, 0), (0, l, 0)] := by
  have N0 := hR.1
  have h4 := ZR_4 hR
  have hI := hR.2.1.2.2.1
  by_cases hl : 0 ≤ l ∧ l < f 1465 3
  · obtain ⟨hC, hIL⟩ := ZR_line hR hl.1 hl.2
    have hla := zLT (q := q) (d := 1896) (t := t) hR hl.1 hl.2
    have hr := hIL.1
    have e4 : f (46 + 18 * l) 4 = f 1465 (10 + 265 * l + 0) := zc_f4 hC
    by_cases hs : f 1465 (10 + 265 * l + 0) = 0
    · obtain ⟨f1, x1, c1⟩ := c_rem (q := q) (d := 1893) (t := t) hR
      obtain ⟨G1, L1, fr1, _⟩ := zCm_w hR c1
      have C1 := L1 l hl.1 hl.2
      rw [show (23 : Int) + 23 + 18 * l = 46 + 18 * l by omega] at C1
      generalize hf2 : zup (zup (zup (zup (zup (zup f1 (46 + 18 * l) 4 1) (46 + 18 * l) 16 0) (46 + 18 * l) 17 0) (46 + 18 * l) 18 0) (46 + 18 * l) 14 0) (46 + 18 * l) 15 0 = f2
      have fb2 : zFb (46 + 18 * l) f1 f2 := fun o k ho => by
        rw [← hf2]
        simp (disch := omega) only [zup_na]
      have C2 : zLC (f 1465 (10 + 265 * l + 2)) f2 (46 + 18 * l) (gSt (f 1465) (10 + 265 * l)) (10 + 265 * l) := by
        rw [← hf2]
        exact zLC_up (by decide) (by decide) (by decide) (by decide) (zLC_up (by decide) (by decide) (by decide) (by decide) (zLC_up (by decide) (by decide) (by decide) (by decide) (zLC_up (by decide) (by decide) (by decide) (by decide) (zLC_up (by decide) (by decide) (by decide) (by decide) (zLC_up (by decide) (by decide) (by decide) (by decide) C1)))))
      have eg : ∀ j, j ≠ 10 + 265 * l + 0 → (j < 10 + 265 * l + 12 ∨ 10 + 265 * l + 16 < j) → gSt (f 1465) (10 + 265 * l) j = f 1465 j := fun j j0 j1 => by
        unfold gSt
        simp (disch := omega) only [zup1_ne]
      have I2 : zIL N (gSt (f 1465) (10 + 265 * l)) (10 + 265 * l) := zIL_z (by decide) (by decide) (zIL_z (by decide) (by decide) (zIL_z (by decide) (by decide) (zIL_z (by decide) (by decide) (zIL_z (by decide) (by decide) (zLI_state hIL (by omega) (by decide))))))
      have p15 : gSt (f 1465) (10 + 265 * l) (10 + 265 * l + 15) = 0 := by
        unfold gSt
        simp (disch := omega) only [zup1_ne, zup1_eq]
      have p14 : gSt (f 1465) (10 + 265 * l) (10 + 265 * l + 14) = 0 := by
        unfold gSt
        simp (disch := omega) only [zup1_ne, zup1_eq]
      have hW := zW_line (N := N) (M := N + 240) (f := f1) (f2 := f2) (W := 23) (l := l) (g := f 1465) (g2 := gSt (f 1465) (10 + 265 * l)) (by omega) hl.1 hl.2 hI (by rw [show (23 : Int) + 23 + 18 * l = 46 + 18 * l by omega]; exact fb2) (fun j hj => eg j (by omega) (by omega)) (by rw [show (23 : Int) + 23 + 18 * l = 46 + 18 * l by omega, eg _ (by omega) (by omega)]; exact C2) (zLI_mono (by omega) I2) (by rw [p15, p14]; decide) G1 L1
      have g3 : gSt (f 1465) (10 + 265 * l) 3 = f 1465 3 := eg 3 (by omega) (by omega)
      have h23 : f2 23 4 = gSt (f 1465) (10 + 265 * l) 3 := hW.1.1
      have b16 := gIn_16 (g := gSt (f 1465) (10 + 265 * l)) (s := 1) (gSt (f 1465) (10 + 265 * l) 3).toNat 0 0 (by decide) (by omega) (by decide)
      have hx : zM (true, q) 1898 194 [(19, 0, 0), (0, l, 0)] (f, t) = some ((0, bS (gIn (gSt (f 1465) (10 + 265 * l)) 1 (gSt (f 1465) (10 + 265 * l) 3).toNat 0 0) 31 0 0, 0), (f2, t)) := by
        rw [ze_X_start, zb_X_start_0, hla, zK_13, zb_X_start_3]
        show (if f (46 + 18 * l) 4 = 0 then _ else _) = _
        rw [e4, if_pos hs, zb_X_start_12, x1, zK_v, zb_X_start_14, ze_Lin_prove, zb_Lin_prove_0]
        show zK _ _ _ _ _ _ (some ((9, 0, 0), (zup (zup (zup (zup (zup (zup f1 (46 + 18 * l) 4 1) (46 + 18 * l) 16 0) (46 + 18 * l) 17 0) (46 + 18 * l) 18 0) (46 + 18 * l) 14 0) (46 + 18 * l) 15 0, t))) = _
        rw [hf2, zK_v, zb_X_start_16]
        show zK _ _ _ _ _ _ (zM (true, q) 1897 192 [(18, 23, 0), (0, 1, 0)] (f2, t)) = _
        rw [c_inState (σ := (f2, t)) h23 (by omega) (by omega) hW.2.1, zK_i, zb_X_start_20, c_bits, zPc_bS b16, zK_i, zb_X_start_21]
      refine zOw_act (g2 := gSt (f 1465) (10 + 265 * l)) hR (by omega) (k_start_v hx) c1 (fun o k ho => fb2 o k (by omega)) ⟨hW.1, hW.2.1, hW.2.2, ?_, ?_⟩ (fun j hj => eg j (by omega) (by omega)) (fun h a0 a1 => ?_)
      · rw [eg 0 (by omega) (by omega)]
        exact hR.2.1.2.2.2.1
      · rw [eg 7 (by omega) (by omega)]
        have := hR.2.1.2.2.2.2
        omega
      · obtain ⟨h1, r1, z1⟩ := r_remR (q := q) (d := 1898) (t := t) (h := zup h 1464 0 0) (g := f 1465) (by rw [zup_nk (by decide)]; exact a0) (by rw [zup_nk (by decide)]; exact a1)
        refine ⟨h1, h1, z1, ?_, zFr_refl⟩
        rw [ze_M_start, zb_M_start_0, r_isLineT hl.1 hl.2 h4.2.2, zK_i, zb_M_start_4, if_pos (by decide), zb_M_start_7]
        simp (disch := omega) only [Int.reduceAdd, zrow_r, zrow_in, zrow_up, zrow_ne, zupE]
        rw [if_pos (by decide), zb_M_start_14, r_of hl.1 (by omega) (by decide) (by decide), zK_i, zb_M_start_19, if_pos hs, zb_M_start_22]
        simp (disch := omega) only [Int.reduceAdd, zrow_r, zrow_in, zrow_up, zrow_ne, zupE]
        rw [if_pos (by decide), zb_M_start_29, zup_zup, r1, zK_v, zb_M_start_31, r_lays hl.1 (by omega) (by decide) (by decide), zK_v, zb_M_start_36, r_lays hl.1 (by omega) (by decide) (by decide), zK_v, zb_M_start_41, r_lays hl.1 (by omega) (by decide) (by decide), zK_v, zb_M_start_46, r_lays hl.1 (by omega) (by decide) (by decide), zK_v, zb_M_start_51, r_lays hl.1 (by omega) (by decide) (by decide), zK_v, zb_M_start_56, r_lays hl.1 (by omega) (by decide) (by decide), zK_v, zb_M_start_61]
        show zK _ _ _ _ _ _ (zM (true, q) 1898 196 [(20, 1464, 0), (0, 1, 0)] (zrow h1 1465 (gSt (f 1465) (10 + 265 * l)), t)) = _
        rw [r_inState (by omega) (by omega), zK_i, zb_M_start_64, r_bits, zK_i, zb_M_start_65]
    · have hx : zM (true, q) 1898 194 [(19, 0, 0), (0, l, 0)] (f, t) = some ((104, 0, 0), (f, zThr t)) := by
        rw [ze_X_start, zb_X_start_0, hla, zK_13, zb_X_start_3]
        show (if f (46 + 18 * l) 4 = 0 then _ else _) = _
        rw [e4, if_neg hs, zb_X_start_7]
        rfl
      refine zOw_mono (N := N) (by omega) (zOw_t (v := 0) rfl hR (by decide) (k_start_104 hx) (fun h => ?_))
      rw [ze_M_start, zb_M_start_0, r_isLineT hl.1 hl.2 h4.2.2, zK_i, zb_M_start_4, if_pos (by decide), zb_M_start_7]
      simp (disch := omega) only [Int.reduceAdd, zrow_r, zrow_in, zrow_up, zrow_ne, zupE]
      rw [if_pos (by decide), zb_M_start_14, r_of hl.1 (by omega) (by decide) (by decide), zK_i, zb_M_start_19, if_neg hs, zb_M_start_20]
      simp (disch := omega) only [Int.reduceAdd, zrow_r, zrow_in, zrow_up, zrow_ne, zupE]
      rw [if_neg (by decide), zb_M_start_27, zup_zup]
  · have hx : zM (true, q) 1898 194 [(19, 0, 0), (0, l, 0)] (f, t) = some ((102, 0, 0), (f, zThr t)) := by
      rw [ze_X_start, zb_X_start_0, zLF_ hR hl]
      rfl
    refine zOw_mono (N := N) (by omega) (zOw_t (v := 0) rfl hR (by decide) (k_start_102 hx) (fun h => ?_))
    rw [ze_M_start, zb_M_start_0, r_isLineF (by omega) h4.2.1 h4.2.2, zK_i, zb_M_start_4, if_neg (fun z => z rfl), zb_M_start_5]
    simp (disch := omega) only [Int.reduceAdd, zrow_r, zrow_in, zrow_up, zrow_ne, zupE]
    rw [if_neg (by decide), zb_M_start_12]
/-! ### shut -/
theorem o_shut {q : Int × (Int → Int)} {N : Int} {f : Int → Int → Int} {t : (Int → Int) × Nat × Nat × Nat × (Int → Int → Bool)} {l : Int} (hR : ZR N f f) : zOw q (N + 240) f t 200 [(19, 0, 0), (0, l, 0), (31, 1478, 1)] 201 [(20, 1464, 0), (0, l, 0)] := by
  have N0 := hR.1
  have h4 := ZR_4 hR
  have hI := hR.2.1.2.2.1
  by_cases hl : 0 ≤ l ∧ l < f 1465 3
  · obtain ⟨hC, hIL⟩ := ZR_line hR hl.1 hl.2
    have hla := zLT (q := q) (d := 1896) (t := t) hR hl.1 hl.2
    have hr := hIL.1
    have e4 : f (46 + 18 * l) 4 = f 1465 (10 + 265 * l + 0) := zc_f4 hC
    by_cases hs : f 1465 (10 + 265 * l + 0) = 0
    · have hx : zM (true, q) 1898 199 [(19, 0, 0), (0, l, 0)] (f, t) = some ((104, 0, 0), (f, zThr t)) := by
        rw [ze_X_shut, zb_X_shut_0, hla, zK_13, zb_X_shut_3]
        show (if f (46 + 18 * l) 4 ≠ 0 then _ else _) = _
        rw [e4, if_neg (fun z => z hs), zb_X_shut_7]
        rfl
      refine zOw_mono (N := N) (by omega) (zOw_t (v := 0) rfl hR (by decide) (k_shut_104 hx) (fun h => ?_))
      rw [ze_M_shut, zb_M_shut_0, r_isLineT hl.1 hl.2 h4.2.2, zK_i, zb_M_shut_4, if_pos (by decide), zb_M_shut_7]
      simp (disch := omega) only [Int.reduceAdd, zrow_r, zrow_in, zrow_up, zrow_ne, zupE]
      rw [if_pos (by decide), zb_M_shut_14, r_of hl.1 (by omega) (by decide) (by decide), zK_i, zb_M_shut_19, if_neg (fun z => z hs), zb_M_shut_20]
      simp (disch := omega) only [Int.reduceAdd, zrow_r, zrow_in, zrow_up, zrow_ne, zupE]
      rw [if_neg (by decide), zb_M_shut_27, zup_zup]
    · obtain ⟨f1, x1, c1⟩ := c_rem (q := q) (d := 1893) (t := t) hR
      obtain ⟨G1, L1, fr1, _⟩ := zCm_w hR c1
      have C1 := L1 l hl.1 hl.2
      rw [show (23 : Int) + 23 + 18 * l = 46 + 18 * l by omega] at C1
      generalize hu : zup1 (f 1465) (10 + 265 * l + 0) 0 = u
      have eu : ∀ j, j ≠ 10 + 265 * l + 0 → u j = f 1465 j := fun j hj => by rw [← hu, zup1_ne hj]
      have eu0 : u (10 + 265 * l + 0) = 0 := by rw [← hu, zup1_eq rfl]
      have u3 : u 3 = f 1465 3 := eu 3 (by omega)
      have u8 : u 8 = f 1465 8 := eu 8 (by omega)
      have g8 := hI.2.2.1.2.2.2
      have hrl : rLR u (10 + 265 * l) := by
        obtain ⟨h_0, h_1, h_2, h_3, h_4, h_5, h_6, h_7, h_8, h_9, h_10, h_11, h_12, h_13, h_14, h_15, h_16⟩ := hr
        refine ⟨by rw [eu0]; decide, ?_, ?_, ?_, ?_, ?_, ?_, ?_, ?_, ?_, ?_, ?_, ?_, ?_, ?_, ?_, ?_⟩ <;> rw [eu _ (by omega)] <;> assumption
      have hll : rLL u (10 + 265 * l) := by
        have hL3 := hIL.2.1
        have h_6 := hr.2.2.2.2.2.2.1
        have h_7 := hr.2.2.2.2.2.2.2.1
        unfold rLL
        rw [eu (10 + 265 * l + 7) (by omega), eu (10 + 265 * l + 6) (by omega)]
        refine ⟨fun k h0 h1 => ?_, fun k h0 h1 => ?_⟩
        · rw [eu _ (by omega)]
          exact hL3.1 k h0 h1
        · rw [eu _ (by omega)]
          exact hL3.2 k h0 h1
      have hIo : ∀ o, 0 ≤ o → o < u 3 → o ≠ l → zIL N u (10 + 265 * o) := fun o o0 o1 ol => zLI_eq (fun j h1 h2 => eu j (by omega)) (hI.2.2.2 o o0 (by omega)).1
      have Cu : zLC (f 1465 (10 + 265 * l + 2)) (zup f1 (46 + 18 * l) 4 0) (46 + 18 * l) u (10 + 265 * l) := by
        rw [← hu]
        exact zLC_up (by decide) (by decide) (by decide) (by decide) C1
      have Gu : zGC (zup f1 (46 + 18 * l) 4 0) 23 u := zGC_g (fun j hj => eu j (by omega)) g8.2 (zGC_b (b := 46 + 18 * l) (by omega) (zFb_up (by omega)) g8.2 G1)
      have Lu : zWL (zup f1 (46 + 18 * l) 4 0) 23 u := fun o o0 o1 => by
        rw [eu _ (by omega)]
        by_cases c : o = l
        · subst c
          rw [show (23 : Int) + 23 + 18 * o = 46 + 18 * o by omega]
          exact Cu
        · have hro := (hI.2.2.2 o o0 (by omega)).1.1
          exact zLC_eq (fun j j0 j1 => eu j (by omega)) hro (by have := hro.2.2.1; omega) (zLC_fb (zFb_up (b := 46 + 18 * l) (by omega)) (by omega) (L1 o o0 (by omega)))
      obtain ⟨f2, x2, L2, G2, fr2⟩ := c_changeOver (q := q) (d := 1894) (σ := (zup f1 (46 + 18 * l) 4 0, t)) (N := N) hl.1 (show l < u 3 by omega) (by omega) hrl hll hIo (by omega) (by omega) Gu Lu
      obtain ⟨y1, y2, y3, y4, y5⟩ := zLI_go (N := N) hl.1 (show l < u 3 by omega) (by omega) hrl hll hIo
      have hx : zM (true, q) 1898 199 [(19, 0, 0), (0, l, 0)] (f, t) = some ((0, rGv u l, 0), (f2, t)) := by
        rw [ze_X_shut, zb_X_shut_0, hla, zK_13, zb_X_shut_3]
        show (if f (46 + 18 * l) 4 ≠ 0 then _ else _) = _
        rw [e4, if_pos hs, zb_X_shut_12, x1, zK_v, zb_X_shut_14]
        show zK _ _ _ _ _ _ (zM (true, q) 1897 133 [(18, 23, 0), (0, l, 0)] (zup f1 (46 + 18 * l) 4 0, t)) = _
        rw [x2, zK_i, zb_X_shut_21]
      have gz := hI.2.2.1
      have Z : zWI (N + 240) (rGoP u l) := by
        have e33 : rGoP u l 3 = u 3 := y2 3 (by omega)
        refine ⟨by omega, by omega, zGR_mono (N := N) (by omega) ?_, fun o o0 o1 => ⟨zLI_mono (N := N) (by omega) (y1 o o0 (by omega)), ?_⟩⟩
        · unfold zGR
          rw [y2 4 (by omega), y2 5 (by omega), y2 6 (by omega), eu 4 (by omega), eu 5 (by omega), eu 6 (by omega)]
          exact ⟨gz.1, gz.2.1, gz.2.2.1, y5 (by omega)⟩
        · by_cases c : o = l
          · subst c
            rw [y4 15 (by decide) (by decide), y4 14 (by decide) (by decide)]
            decide
          · rw [y3 o 15 o0 (by omega) c (by decide) (by decide) (by decide), y3 o 14 o0 (by omega) c (by decide) (by decide) (by decide), eu _ (by omega), eu _ (by omega)]
            exact (hI.2.2.2 o o0 (by omega)).2
      refine zOw_act (g2 := rGoP u l) hR (by omega) (k_shut_v hx) c1 (fun o k ho => ?_) ⟨G2, L2, Z, ?_, ?_⟩ (fun j hj => ?_) (fun h a0 a1 => ?_)
      · exact (fr2 o k (by omega)).trans (zup_na (by omega))
      · rw [y2 0 (by omega), eu 0 (by omega)]
        exact hR.2.1.2.2.2.1
      · rw [y2 7 (by omega), eu 7 (by omega)]
        have := hR.2.1.2.2.2.2
        omega
      · rw [y2 j (by omega), eu j (by omega)]
      · obtain ⟨h1, r1, z1⟩ := r_remR (q := q) (d := 1898) (t := t) (h := zup h 1464 0 0) (g := f 1465) (by rw [zup_nk (by decide)]; exact a0) (by rw [zup_nk (by decide)]; exact a1)
        have hk : ∀ o, 0 ≤ o → o < u 3 → 0 ≤ u (10 + 265 * o + 7) ∧ u (10 + 265 * o + 7) ≤ 8 ∧ 0 ≤ u (10 + 265 * o + 6) ∧ u (10 + 265 * o + 6) ≤ 96 := fun o o0 o1 => by
          have hro := (hI.2.2.2 o o0 (by omega)).1.1
          have a6 := hro.2.2.2.2.2.2.1
          have a7 := hro.2.2.2.2.2.2.2.1
          rw [eu _ (by omega), eu _ (by omega)]
          omega
        have hg := r_goesOver (q := q) (d := 1895) (f := h1) (t := t) hl.1 (show l < u 3 by omega) (by omega) hk (by omega) (by omega)
        have k7 := hk l hl.1 (by omega)
        rw [rGo_P k7.1 k7.2.1] at hg
        refine ⟨h1, zrow h1 1473 (rGov h1 u (10 + 265 * l)), z1, ?_, zFr_row2 (by omega) zFr_refl⟩
        rw [ze_M_shut, zb_M_shut_0, r_isLineT hl.1 hl.2 h4.2.2, zK_i, zb_M_shut_4, if_pos (by decide), zb_M_shut_7]
        simp (disch := omega) only [Int.reduceAdd, zrow_r, zrow_in, zrow_up, zrow_ne, zupE]
        rw [if_pos (by decide), zb_M_shut_14, r_of hl.1 (by omega) (by decide) (by decide), zK_i, zb_M_shut_19, if_pos hs, zb_M_shut_22]
        simp (disch := omega) only [Int.reduceAdd, zrow_r, zrow_in, zrow_up, zrow_ne, zupE]
        rw [if_pos (by decide), zb_M_shut_29, zup_zup, r1, zK_v, zb_M_shut_31, r_lays hl.1 (by omega) (by decide) (by decide), zK_v, hu, zb_M_shut_36, hg, zK_i, zb_M_shut_39]
  · have hx : zM (true, q) 1898 199 [(19, 0, 0), (0, l, 0)] (f, t) = some ((102, 0, 0), (f, zThr t)) := by
      rw [ze_X_shut, zb_X_shut_0, zLF_ hR hl]
      rfl
    refine zOw_mono (N := N) (by omega) (zOw_t (v := 0) rfl hR (by decide) (k_shut_102 hx) (fun h => ?_))
    rw [ze_M_shut, zb_M_shut_0, r_isLineF (by omega) h4.2.1 h4.2.2, zK_i, zb_M_shut_4, if_neg (fun z => z rfl), zb_M_shut_5]
    simp (disch := omega) only [Int.reduceAdd, zrow_r, zrow_in, zrow_up, zrow_ne, zupE]
    rw [if_neg (by decide), zb_M_shut_12]

