/-! ## the world that is tried -/
/-- one field of a line is set -/
theorem zIL_f1 {N : Int} {g : Int → Int} {B v : Int} (hv : 0 ≤ v ∧ v ≤ 100) (h : zIL N g B) : zIL N (zup1 g (B + 1) v) B := by
  obtain ⟨hr, hL, hH, hA, hN⟩ := h
  refine ⟨?_, ?_, ?_, fun k k0 k1 => ?_, fun k k0 k1 => ?_⟩
  · unfold rLR at hr ⊢
    simp (disch := omega) only [zup1_ne, zup1_eq]
    omega
  · unfold rLL at hL ⊢
    rw [zup1_ne (show B + 7 ≠ B + 1 by omega), zup1_ne (show B + 6 ≠ B + 1 by omega)]
    exact ⟨fun k k0 k1 => by rw [zup1_ne (by omega)]; exact hL.1 k k0 k1, fun k k0 k1 => by rw [zup1_ne (by omega)]; exact hL.2 k k0 k1⟩
  · unfold zLH at hH ⊢
    simp (disch := omega) only [zup1_ne]
    exact hH
  · simp (disch := omega) only [zup1_ne]
    exact hA k k0 k1
  · rw [zup1_ne (show B + 7 ≠ B + 1 by omega)] at k1
    simp (disch := omega) only [zup1_ne]
    exact hN k k0 k1
theorem zIL_f3 {N : Int} {g : Int → Int} {B v : Int} (hv : 1 ≤ v ∧ v ≤ 8) (h : zIL N g B) : zIL N (zup1 g (B + 3) v) B := by
  obtain ⟨hr, hL, hH, hA, hN⟩ := h
  refine ⟨?_, ?_, ?_, fun k k0 k1 => ?_, fun k k0 k1 => ?_⟩
  · unfold rLR at hr ⊢
    simp (disch := omega) only [zup1_ne, zup1_eq]
    omega
  · unfold rLL at hL ⊢
    rw [zup1_ne (show B + 7 ≠ B + 3 by omega), zup1_ne (show B + 6 ≠ B + 3 by omega)]
    exact ⟨fun k k0 k1 => by rw [zup1_ne (by omega)]; exact hL.1 k k0 k1, fun k k0 k1 => by rw [zup1_ne (by omega)]; exact hL.2 k k0 k1⟩
  · unfold zLH at hH ⊢
    simp (disch := omega) only [zup1_ne]
    exact hH
  · simp (disch := omega) only [zup1_ne]
    exact hA k k0 k1
  · rw [zup1_ne (show B + 7 ≠ B + 3 by omega)] at k1
    simp (disch := omega) only [zup1_ne]
    exact hN k k0 k1
theorem zIL_f4 {N : Int} {g : Int → Int} {B v : Int} (hv : 9 ≤ v ∧ v ≤ 60) (h : zIL N g B) : zIL N (zup1 g (B + 4) v) B := by
  obtain ⟨hr, hL, hH, hA, hN⟩ := h
  refine ⟨?_, ?_, ?_, fun k k0 k1 => ?_, fun k k0 k1 => ?_⟩
  · unfold rLR at hr ⊢
    simp (disch := omega) only [zup1_ne, zup1_eq]
    omega
  · unfold rLL at hL ⊢
    rw [zup1_ne (show B + 7 ≠ B + 4 by omega), zup1_ne (show B + 6 ≠ B + 4 by omega)]
    exact ⟨fun k k0 k1 => by rw [zup1_ne (by omega)]; exact hL.1 k k0 k1, fun k k0 k1 => by rw [zup1_ne (by omega)]; exact hL.2 k k0 k1⟩
  · unfold zLH at hH ⊢
    simp (disch := omega) only [zup1_ne]
    exact hH
  · simp (disch := omega) only [zup1_ne]
    exact hA k k0 k1
  · rw [zup1_ne (show B + 7 ≠ B + 4 by omega)] at k1
    simp (disch := omega) only [zup1_ne]
    exact hN k k0 k1
theorem zIL_f5 {N : Int} {g : Int → Int} {B v : Int} (hv : 1 ≤ v ∧ v ≤ 20) (h : zIL N g B) : zIL N (zup1 g (B + 5) v) B := by
  obtain ⟨hr, hL, hH, hA, hN⟩ := h
  refine ⟨?_, ?_, ?_, fun k k0 k1 => ?_, fun k k0 k1 => ?_⟩
  · unfold rLR at hr ⊢
    simp (disch := omega) only [zup1_ne, zup1_eq]
    omega
  · unfold rLL at hL ⊢
    rw [zup1_ne (show B + 7 ≠ B + 5 by omega), zup1_ne (show B + 6 ≠ B + 5 by omega)]
    exact ⟨fun k k0 k1 => by rw [zup1_ne (by omega)]; exact hL.1 k k0 k1, fun k k0 k1 => by rw [zup1_ne (by omega)]; exact hL.2 k k0 k1⟩
  · unfold zLH at hH ⊢
    simp (disch := omega) only [zup1_ne]
    exact hH
  · simp (disch := omega) only [zup1_ne]
    exact hA k k0 k1
  · rw [zup1_ne (show B + 7 ≠ B + 5 by omega)] at k1
    simp (disch := omega) only [zup1_ne]
    exact hN k k0 k1
theorem zW_up {N : Int} {f : Int → Int → Int} {W l c r v : Int} {g : Int → Int} (hl : 0 ≤ l) (hlm : l < g 3) (hI : zWI N g) (hr : r < 6) (r0 : 0 ≤ r) (hc : 4 ≤ c ∧ c < 19 ∧ c ≠ 6) (hrc : r = zfm c) (hI2 : zIL N (zup1 g (10 + 265 * l + r) v) (10 + 265 * l)) (hr2 : r ≠ 2) (hG : zGC f W g) (hL : zWL f W g) : zGC (zup f (W + 23 + 18 * l) c v) W (zup1 g (10 + 265 * l + r) v) ∧ zWL (zup f (W + 23 + 18 * l) c v) W (zup1 g (10 + 265 * l + r) v) ∧ zWI N (zup1 g (10 + 265 * l + r) v) := by
  have h4 := hI.2.1
  have h8 := hI.2.2.1.2.2.2
  have e : ∀ j, j ≠ 10 + 265 * l + r → zup1 g (10 + 265 * l + r) v j = g j := fun j hj => zup1_ne hj
  have ex : ∀ o, 0 ≤ o → o ≠ l → zLE g (zup1 g (10 + 265 * l + r) v) (10 + 265 * o) := fun o o0 ol j j0 j1 => e j (by omega)
  refine ⟨zGC_fr (fun k => zup_na (by omega)) (fun k => zup_na (by omega)) (fun k => zup_na (by omega)) (fun j hj => e j (by omega)) h8.2 hG, fun o o0 o1 => ?_, ?_, ?_, zGR_eq (fun j j0 j1 => e j (by omega)) hI.2.2.1, fun o o0 o1 => ?_⟩
  · rw [e 3 (by omega)] at o1
    rw [e _ (by omega)]
    by_cases c2 : o = l
    · subst c2
      exact zLC_up hc.1 hc.2.1 hc.2.2 hrc (hL o o0 o1)
    · have hro := (hI.2.2.2 o o0 o1).1.1
      exact zLC_eq (ex o o0 c2) hro (by have := hro.2.2.1; omega) (zLC_fb (zFb_up (b := W + 23 + 18 * l) (by omega)) (by omega) (hL o o0 o1))
  · rw [e 3 (by omega)]; exact hI.1
  · rw [e 3 (by omega)]; exact h4
  · rw [e 3 (by omega)] at o1
    rw [e _ (by omega), e _ (by omega)]
    refine ⟨?_, (hI.2.2.2 o o0 o1).2⟩
    by_cases c2 : o = l
    · subst c2
      exact hI2
    · exact zLI_eq (ex o o0 c2) (hI.2.2.2 o o0 o1).1
theorem zW_seed {N : Int} {f : Int → Int → Int} {W x : Int} {g : Int → Int} (hI : zWI N g) (hG : zGC f W g) (hL : zWL f W g) : zGC (zup f W 10 x) W (zup1 g 9 x) ∧ zWL (zup f W 10 x) W (zup1 g 9 x) ∧ zWI N (zup1 g 9 x) := by
  have h4 := hI.2.1
  have e : ∀ j, j ≠ 9 → zup1 g 9 x j = g j := fun j hj => zup1_ne hj
  obtain ⟨a4, a5, a6, a7, a8, a9, a10, j1, j2, j3, j4⟩ := hG
  refine ⟨⟨?_, ?_, ?_, ?_, ?_, ?_, ?_, ?_, ?_, ?_, fun ago c g0 g1 c0 c1 => ?_⟩, fun o o0 o1 => ?_, ?_, ?_, zGR_eq (fun j j0 j1 => e j (by omega)) hI.2.2.1, fun o o0 o1 => ?_⟩
  · rw [zup_nk (by decide), e 3 (by decide)]; exact a4
  · rw [zup_nk (by decide), e 0 (by decide)]; exact a5
  · rw [zup_nk (by decide), e 4 (by decide)]; exact a6
  · rw [zup_nk (by decide), e 5 (by decide)]; exact a7
  · rw [zup_nk (by decide), e 6 (by decide)]; exact a8
  · rw [zup_nk (by decide), e 7 (by decide)]; exact a9
  · rw [zupE rfl rfl, zup1_eq rfl]
  · rw [zup_na (by omega), e 8 (by decide)]; exact j1
  · rw [zup_na (by omega)]; exact j2
  · rw [zup_na (by omega)]; exact j3
  · rw [e 8 (by decide)] at g1
    rw [zup_na (by omega), zup_na (by omega), e _ (by omega)]
    exact j4 ago c g0 g1 c0 c1
  · rw [e 3 (by decide)] at o1
    have hro := (hI.2.2.2 o o0 o1).1.1
    rw [e _ (by omega)]
    exact zLC_eq (fun j j0 j1 => e j (by omega)) hro (by have := hro.2.2.1; omega) (zLC_fr (fun x k x0 x1 => zup_na (by omega)) (hL o o0 o1))
  · rw [e 3 (by decide)]; exact hI.1
  · rw [e 3 (by decide)]; exact h4
  · rw [e 3 (by decide)] at o1
    rw [e _ (by omega), e _ (by omega)]
    exact ⟨zLI_eq (fun j j0 j1 => e j (by omega)) (hI.2.2.2 o o0 o1).1, (hI.2.2.2 o o0 o1).2⟩
/-- what a trial leaves as it was -/
def zTry (f f2 : Int → Int → Int) : Prop := ∀ o k, (o < 118 ∨ 213 ≤ o) → o ≠ 8 → f2 o k = f o k
theorem zTry_refl {f : Int → Int → Int} : zTry f f := fun _ _ _ _ => rfl
theorem zTry_trans {f f2 f3 : Int → Int → Int} (h : zTry f f2) (h2 : zTry f2 f3) : zTry f f3 := fun o k a b => (h2 o k a b).trans (h o k a b)
theorem zTry_ck {f f2 : Int → Int → Int} (h : zTry f f2) : zCk f f2 := fun o k a => h o k (by omega) (by omega)
theorem zTry_copy {q : Int × (Int → Int)} {d : Nat} {N : Int} {f f1 : Int → Int → Int} {t : (Int → Int) × Nat × Nat × Nat × (Int → Int → Bool)} (hR : ZR N f f) (hT : zTry f f1) : ∃ f2, zM (true, q) (d + 3) 43 [(18, 118, 0), (18, 23, 0)] (f1, t) = some ((9, 0, 0), (f2, t)) ∧ zGC f2 118 (f 1465) ∧ zWL f2 118 (f 1465) ∧ zTry f f2 := by
  have hI := hR.2.1.2.2.1
  obtain ⟨f2, r2, g2, l2, fr2⟩ := c_world (q := q) (d := d) (t := t) (f := f1) (U := 118) (W := 23) (g := f 1465) (by decide) hI.1 hI.2.1 hI.2.2.1.2.2.2.2 (fun o o0 o1 => (hI.2.2.2 o o0 o1).1.1) (zGC_c (fun o k o0 o1 o2 => hT o k (by omega) (by omega)) hR.2.1.1) (zWL_c hI.2.1 (fun o k o0 o1 => hT o k (by omega) (by omega)) hR.2.1.2.1)
  exact ⟨f2, r2, g2, l2, zTry_trans hT (fun o k a _ => fr2 o k (by omega))⟩
theorem zTry_pass {q : Int × (Int → Int)} {d : Nat} {N m dr : Int} {f f1 : Int → Int → Int} {t : (Int → Int) × Nat × Nat × Nat × (Int → Int → Bool)} {g : Int → Int} {S : Int → (Int → Int) → Int} (hS : zSC S) (hA : zAskC q S 2 f) (hT : zTry f f1) (m0 : 0 ≤ m) (hm : m ≤ 60) (hW : zWI N g) (hG : zGC f1 118 g) (hL : zWL f1 118 g) (N0 : 0 ≤ N) (hN : N + 240 < 2147483646) : ∃ f2, zM (true, q) (d + 6) 135 [(18, 118, 0), (0, m, 0), (12, 2, 0), (0, dr, 0)] (f1, t) = some ((9, 0, 0), (f2, t)) ∧ zGC f2 118 (kGoes (zLwA S) dr m.toNat g) ∧ zWL f2 118 (kGoes (zLwA S) dr m.toNat g) ∧ zTry f f2 := by
  obtain ⟨f2, r2, g2, l2, fr2⟩ := c_pass (q := q) (d := d) (σ := (f1, t)) (dr := dr) hS hA (fun o k o0 o1 => hT o k (by omega) (by omega)) (by decide) m0 hm hW hG hL N0 hN
  exact ⟨f2, r2, g2, l2, zTry_trans hT (fun o k a b => fr2 o k (by omega) (by omega))⟩
/-! ### the reference puts aside and takes back -/
theorem r_out {q : Int × (Int → Int)} {d : Nat} {f : Int → Int → Int} {t : (Int → Int) × Nat × Nat × Nat × (Int → Int → Bool)} {g : Int → Int} : ∃ f1, zM (true, q) d 58 [(20, 1464, 0)] (zrow f 1465 g, t) = some ((9, 0, 0), (zrow f1 1465 g, t)) ∧ (∀ j, 0 ≤ j → j < 1310 → f1 1467 j = g j) ∧ (∀ o k, o ≠ 1465 → o ≠ 1467 → f1 o k = f o k) := by
  obtain ⟨f1, r1, h1, h2⟩ := r_aside (q := q) (d := d) (t := t) (f := zrow f 1465 g)
  have e : zrow f1 1465 g = f1 := by
    have : f1 1465 = g := funext fun k => (h2 1465 k (by omega)).trans (congrFun zrow_r k)
    rw [← this, zrow_id]
  refine ⟨f1, by rw [e]; exact r1, fun j j0 j1 => ?_, fun o k a b => ?_⟩
  · have := h1 j j0 j1
    rw [Int.zero_add, zrow_r] at this
    exact this
  · rw [h2 o k (Or.inl b), zrow_ne a]
theorem r_in {q : Int × (Int → Int)} {d : Nat} {f : Int → Int → Int} {t : (Int → Int) × Nat × Nat × Nat × (Int → Int → Bool)} {g K : Int → Int} (h : ∀ j, 0 ≤ j → j < 1310 → f 1467 j = g j) (hK : ∀ j, (j < 0 ∨ 1310 ≤ j) → K j = g j) : zM (true, q) d 85 [(20, 1464, 0)] (zrow f 1465 K, t) = some ((9, 0, 0), (zrow f 1465 g, t)) := by
  obtain ⟨f1, r1, h1, h2⟩ := r_cback (q := q) (d := d) (t := t) (f := zrow f 1465 K)
  have e : f1 = zrow f 1465 g := by
    funext o k
    by_cases c : o = 1465
    · subst c
      rw [zrow_r]
      by_cases c2 : 0 ≤ k ∧ k < 1310
      · have := h1 k c2.1 c2.2
        rw [Int.zero_add, zrow_ne (by decide)] at this
        exact this.trans (h k c2.1 c2.2)
      · rw [h2 1465 k (by omega), zrow_r]
        exact hK k (by omega)
    · rw [h2 o k (Or.inl c), zrow_ne c, zrow_ne c]
  rw [r1, e]
/-- a trial of the reference's: aside, so many ticks -/
theorem r_tries {q : Int × (Int → Int)} {d : Nat} {f : Int → Int → Int} {t : (Int → Int) × Nat × Nat × Nat × (Int → Int → Bool)} {g g0 : Int → Int} {A : (Int → Int) → Int × Int} {w : Int → Int} {N dr m : Int} (hA : zAsk q A w) (hB : zAB A) (hw : zLawW w g) (hW : zWI N g) (N0 : 0 ≤ N) (hN : N + 240 < 2147483646) (m0 : 0 ≤ m) (m60 : m ≤ 60) (h7 : ∀ j, 0 ≤ j → j < 1310 → f 1467 j = g0 j) : ∃ f2, zM (true, q) (d + 65) 169 [(20, 1464, 0), (0, m, 0), (0, dr, 0)] (zrow f 1465 g, t) = some ((0, kGoes A dr m.toNat g 5 - g 5, 0), (zrow f2 1465 (kGoes A dr m.toNat g), t)) ∧ (∀ j, 0 ≤ j → j < 1310 → f2 1467 j = g0 j) ∧ zFr f f2 ∧ zWI (N + 240) (kGoes A dr m.toNat g) ∧ (∀ j, (j < 4 ∨ j = 7 ∨ 1310 ≤ j) → kGoes A dr m.toNat g j = g j) := by
  obtain ⟨f2, r2, fr2⟩ := r_goes (q := q) (d := d) (f := f) (t := t) (dr := dr) hA hB hw hW N0 hN m0 m60
  have hg := zWI_goes (dr := dr) hB m.toNat N g hW N0 (by omega)
  have a := hg.1.2.2.1.2.1
  have b := hW.2.2.1.2.1
  refine ⟨f2, ?_, fun j j0 j1 => (fr2.1 1467 j (by decide) (by decide) (by decide) (by decide) (by decide) (fun z => by omega)).trans (h7 j j0 j1), fr2, zWI_mono (by omega) hg.1, hg.2⟩
  rw [r2, zw_id (by omega) (by omega)]
/-- what a trial of the reference's leaves as it was -/
theorem zFr_h {h h1 h2 : Int → Int → Int} {g : Int → Int} {c : Int} (fr1 : ∀ o k, o ≠ 1465 → o ≠ 1467 → h1 o k = zup h 1464 0 c o k) (fr : zFr h1 h2) : zHk (zrow h 1465 g) (zrow h2 1465 g) ∧ (∀ o k, (o < 1464 ∨ o = 1478) → zrow h2 1465 g o k = zrow h 1465 g o k) ∧ zrow h2 1465 g 1464 0 = c := by
  refine ⟨⟨fun o k a => ?_, fun z => zB3_fr (fun k _ _ => congrFun (zrow_ne (by decide)) k) (fr.2 (zB3_fr (fun k k0 k1 => ?_) z))⟩, fun o k a => ?_, ?_⟩
  · by_cases c5 : o = 1465
    · rw [c5, zrow_r, zrow_r]
    · rw [zrow_ne c5, zrow_ne c5, fr.1 o k c5 (by omega) (by omega) (by omega) (by omega) (fun z => by omega), fr1 o k c5 (by omega), zup_nka (by omega)]
  · rw [fr1 _ _ (by decide) (by decide), zup_nk (by omega), zrow_ne (by decide)]
  · rw [zrow_ne (by omega), zrow_ne (by omega), fr.1 o k (by omega) (by omega) (by omega) (by omega) (by omega) (fun z => by omega), fr1 o k (by omega) (by omega), zup_na (by omega)]
  · rw [zrow_ne (by decide), fr.1 1464 0 (by decide) (by decide) (by decide) (by decide) (by decide) (fun z => by omega), fr1 _ _ (by decide) (by decide), zupE rfl rfl]

