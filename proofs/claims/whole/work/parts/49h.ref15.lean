/-! ## the other form: frames, what the law says, what is taken -/
def zB3 (h : Int → Int → Int) : Prop := (h 1464 15 = 0 ∨ h 1464 15 = 1) ∧ (h 1464 16 = 0 ∨ h 1464 16 = 1) ∧ (h 1464 17 = 0 ∨ h 1464 17 = 1)
theorem zB3_fr {f f2 : Int → Int → Int} (e : ∀ k, 15 ≤ k → k ≤ 17 → f2 1464 k = f 1464 k) (h : zB3 f) : zB3 f2 := by
  unfold zB3
  rw [e 15 (by decide) (by decide), e 16 (by decide) (by decide), e 17 (by decide) (by decide)]
  exact h
def zFr (f f2 : Int → Int → Int) : Prop := (∀ o k, o ≠ 1465 → o ≠ 1470 → o ≠ 1471 → o ≠ 1472 → o ≠ 1473 → (o = 1464 → k < 9 ∨ k = 12 ∨ 19 < k) → f2 o k = f o k) ∧ (zB3 f → zB3 f2)
def zFrA (f f2 : Int → Int → Int) : Prop := (∀ o k, o ≠ 1465 → o ≠ 1470 → (o = 1464 → k < 9 ∨ k = 12 ∨ 19 < k) → f2 o k = f o k) ∧ (zB3 f → zB3 f2)
theorem zFr_refl {f : Int → Int → Int} : zFr f f := ⟨fun _ _ _ _ _ _ _ _ => rfl, id⟩
theorem zFr_trans {f f2 f3 : Int → Int → Int} (h : zFr f f2) (h2 : zFr f2 f3) : zFr f f3 := ⟨fun o k h1 h3 h4 h5 h6 h7 => (h2.1 o k h1 h3 h4 h5 h6 h7).trans (h.1 o k h1 h3 h4 h5 h6 h7), fun z => h2.2 (h.2 z)⟩
theorem zFrA_fr {f f2 : Int → Int → Int} (h : zFrA f f2) : zFr f f2 := ⟨fun o k h1 h3 _ _ _ h7 => h.1 o k h1 h3 h7, h.2⟩
theorem zFr_row {f f2 : Int → Int → Int} {a : Int} {r : Int → Int} (ha : a = 1471 ∨ a = 1472 ∨ a = 1473) (h : zFr (zrow f a r) f2) : zFr f f2 := ⟨fun o k h1 h3 h4 h5 h6 h7 => (h.1 o k h1 h3 h4 h5 h6 h7).trans (congrFun (zrow_ne (by omega)) k), fun z => h.2 (zB3_fr (fun k _ _ => congrFun (zrow_ne (by omega)) k) z)⟩
theorem zFr_row2 {f f2 : Int → Int → Int} {a : Int} {r : Int → Int} (ha : a = 1471 ∨ a = 1472 ∨ a = 1473) (h : zFr f f2) : zFr f (zrow f2 a r) := ⟨fun o k h1 h3 h4 h5 h6 h7 => (congrFun (zrow_ne (by omega)) k).trans (h.1 o k h1 h3 h4 h5 h6 h7), fun z => zB3_fr (fun k _ _ => congrFun (zrow_ne (by omega)) k) (h.2 z)⟩
/-- the ranges of a line's row -/
def rLR (g : Int → Int) (B : Int) : Prop :=
  (0 ≤ g (B + 0) ∧ g (B + 0) ≤ 2) ∧ (0 ≤ g (B + 1) ∧ g (B + 1) ≤ 100) ∧ (1 ≤ g (B + 2) ∧ g (B + 2) ≤ 4) ∧ (1 ≤ g (B + 3) ∧ g (B + 3) ≤ 8) ∧ (9 ≤ g (B + 4) ∧ g (B + 4) ≤ 60) ∧ (1 ≤ g (B + 5) ∧ g (B + 5) ≤ 20) ∧ (0 ≤ g (B + 6) ∧ g (B + 6) ≤ 96) ∧ (0 ≤ g (B + 7) ∧ g (B + 7) ≤ 8) ∧ (0 ≤ g (B + 8) ∧ g (B + 8) ≤ 7) ∧ (0 ≤ g (B + 9) ∧ g (B + 9) ≤ 1) ∧ (0 ≤ g (B + 10) ∧ g (B + 10) ≤ 15) ∧ (0 ≤ g (B + 11) ∧ g (B + 11) ≤ 15) ∧ (0 ≤ g (B + 12) ∧ g (B + 12) ≤ 99) ∧ (0 ≤ g (B + 13) ∧ g (B + 13) ≤ 7) ∧ (0 ≤ g (B + 14) ∧ g (B + 14) ≤ 7) ∧ (0 ≤ g (B + 15) ∧ g (B + 15) ≤ 7) ∧ (0 ≤ g (B + 16) ∧ g (B + 16) ≤ 2)
/-- what the law is asked: the facts -/
def rFact (g : Int → Int) (l len fo re : Int) : Int → Int := fun i => if i = 0 then l else if i = 1 then len else if i = 2 then g (10 + 265 * l + 7) else if i = 3 then g (10 + 265 * l + 6) else if i = 4 then g (10 + 265 * l + 12) else if i = 5 then g (10 + 265 * l + 2) else if i = 6 then zrem (g 4) 100 else if i = 7 then (if len = 0 then 1 else 0) else if i = 8 then fo else if i = 9 then re else 0
def zClamp (x : Int) : Int := if x < 0 then 0 else if 100 < x then 100 else x
def zAB (A : (Int → Int) → Int × Int) : Prop := ∀ φ, -1188 ≤ (A φ).1 ∧ (A φ).1 ≤ 1188 ∧ 0 ≤ (A φ).2 ∧ (A φ).2 ≤ 1188
/-- the text of the law in a row is that of another -/
def zLawW (w g : Int → Int) : Prop := ∀ j, (j = 1 ∨ j = 2 ∨ 1310 ≤ j) → g j = w j
def zAsk (q : Int × (Int → Int)) (A : (Int → Int) → Int × Int) (w : Int → Int) : Prop := ∀ (g : Int → Int), zLawW w g → ∀ (d : Nat) (f : Int → Int → Int) (t : (Int → Int) × Nat × Nat × Nat × (Int → Int → Bool)) (l len fo re : Int), 0 ≤ l → l < 4 → 0 ≤ len → len ≤ 9 → (fo = 0 ∨ fo = 1) → (re = 0 ∨ re = 1) → rLR g (10 + 265 * l) → 0 ≤ g 4 → g 4 ≤ 9999 →
  ∃ f2, zM (true, q) (d + 60) 150 [(20, 1464, 0), (0, l, 0), (0, len, 0), (0, fo, 0), (0, re, 0)] (zrow f 1465 g, t) = some ((9, 0, 0), (zrow f2 1465 g, t)) ∧ f2 1464 18 = zClamp (g (10 + 265 * l + 1) + (A (rFact g l len fo re)).1) ∧ f2 1464 19 = len + (A (rFact g l len fo re)).2 ∧ zFrA f f2
/-- what arrives -/
def kTake (A : (Int → Int) → Int × Int) (g : Int → Int) (l B : Int) : Int → Int := if g (B + (49 + 0)) = 2 ∧ g (B + (49 + 3)) ≠ 1 ∧ g (B + (49 + 2)) = g (B + 11) then rTake (rArr g B) l B (g (B + (49 + 4)) + (A (rFact (rArr g B) l (g (B + (49 + 4))) (g (B + 9)) (rRep (rArr g B) B (g (B + (49 + 2)))))).2) (g (B + (49 + 1))) else rArr g B
theorem rWatch_out {g : Int → Int} {B x y j : Int} (h : j ≠ B + 12) (h2 : j ≠ B + 13) : rWatch g B x y j = g j := by
  unfold rWatch
  split
  · rw [zup1_ne h2, zup1_ne h]
  · split
    · rfl
    · split <;> simp (disch := omega) only [zup1_ne]
theorem rAir_out {g : Int → Int} {B j : Int} (p1 : 1 ≤ g (B + 2)) (p4 : g (B + 2) ≤ 4) (h : j < B + 49 ∨ B + 69 ≤ j) : rAir g B j = g j := (mfil_out (by omega)).trans (msh_out (by omega))
theorem rArr_out {g : Int → Int} {B j : Int} (p1 : 1 ≤ g (B + 2)) (p4 : g (B + 2) ≤ 4) (h : j < B + 12 ∨ (B + 14 ≤ j ∧ j < B + 49) ∨ B + 69 ≤ j) : rArr g B j = g j := (rWatch_out (by omega) (by omega)).trans (rAir_out p1 p4 (by omega))
theorem rArr_12 {g : Int → Int} {B : Int} (p1 : 1 ≤ g (B + 2)) (p4 : g (B + 2) ≤ 4) (h12 : 0 ≤ g (B + 12) ∧ g (B + 12) ≤ 99) (h13 : 0 ≤ g (B + 13) ∧ g (B + 13) ≤ 7) : (0 ≤ rArr g B (B + 12) ∧ rArr g B (B + 12) ≤ 99) ∧ (0 ≤ rArr g B (B + 13) ∧ rArr g B (B + 13) ≤ 7) := by
  have e12 : rAir g B (B + 12) = g (B + 12) := rAir_out p1 p4 (by omega)
  have e13 : rAir g B (B + 13) = g (B + 13) := rAir_out p1 p4 (by omega)
  unfold rArr rWatch
  rw [e12, e13]
  split
  · rw [zup1_ne (show B + 12 ≠ B + 13 by omega), zup1_eq rfl, zup1_eq rfl]
    refine ⟨⟨?_, ?_⟩, by omega, by omega⟩ <;> split <;> omega
  · split
    · rw [e12, e13]
      exact ⟨h12, h13⟩
    · have hr : zrem (g (B + 13) + 1) 8 = (g (B + 13) + 1) % 8 := by
        unfold zrem
        exact Int.tmod_eq_emod_of_nonneg (by omega)
      split
      · rw [zup1_ne (show B + 12 ≠ B + 13 by omega), zup1_eq rfl, e12]
        refine ⟨⟨by omega, by omega⟩, ?_, ?_⟩
        · rw [hr]; omega
        · rw [hr]; omega
      · rw [zup1_eq rfl, zup1_ne (show B + 13 ≠ B + 12 by omega), zup1_eq rfl]
        refine ⟨⟨?_, ?_⟩, ?_, ?_⟩
        · split <;> omega
        · split <;> omega
        · rw [hr]; omega
        · rw [hr]; omega
theorem rLR_arr {g : Int → Int} {B : Int} (h : rLR g B) : rLR (rArr g B) B := by
  obtain ⟨h0, h1, h2, h3, h4, h5, h6, h7, h8, h9, h10, h11, h12, h13, h14, h15, h16⟩ := h
  have e : ∀ k, 0 ≤ k → (k < 12 ∨ 14 ≤ k ∧ k < 49) → rArr g B (B + k) = g (B + k) := fun k _ _ => rArr_out h2.1 h2.2 (by omega)
  have hh := rArr_12 h2.1 h2.2 h12 h13
  unfold rLR
  rw [e 0 (by decide) (by decide), e 1 (by decide) (by decide), e 2 (by decide) (by decide), e 3 (by decide) (by decide), e 4 (by decide) (by decide), e 5 (by decide) (by decide), e 6 (by decide) (by decide), e 7 (by decide) (by decide), e 8 (by decide) (by decide), e 9 (by decide) (by decide), e 10 (by decide) (by decide), e 11 (by decide) (by decide), e 14 (by decide) (by decide), e 15 (by decide) (by decide), e 16 (by decide) (by decide)]
  exact ⟨h0, h1, h2, h3, h4, h5, h6, h7, h8, h9, h10, h11, hh.1, hh.2, h14, h15, h16⟩
theorem r_arrives {q : Int × (Int → Int)} {d : Nat} {f : Int → Int → Int} {t : (Int → Int) × Nat × Nat × Nat × (Int → Int → Bool)} {g : Int → Int} {A : (Int → Int) → Int × Int} {w : Int → Int} {l : Int} (hA : zAsk q A w) (hB : zAB A) (hw : zLawW w g) (hl : 0 ≤ l) (hl4 : l < 4) (hr : rLR g (10 + 265 * l)) (ha : g (10 + 265 * l + (49 + 0)) = 2 → 0 ≤ g (10 + 265 * l + (49 + 4)) ∧ g (10 + 265 * l + (49 + 4)) ≤ 9) (h4 : 0 ≤ g 4) (h49 : g 4 ≤ 9999) (w0 : 0 ≤ g 6) (w9 : g 6 ≤ 99999) (g0 : 0 ≤ g 8) (g60 : g 8 ≤ 60) :
    ∃ f2, zM (true, q) (d + 62) 153 [(20, 1464, 0), (0, l, 0)] (zrow f 1465 g, t) = some ((0, if g (10 + 265 * l + (49 + 3)) = 1 then 1 else 0, 0), (zrow f2 1465 (kTake A g l (10 + 265 * l)), t)) ∧ zFr f f2 := by
  obtain ⟨h_0, h_1, h_2, h_3, h_4, h_5, h_6, h_7, h_8, h_9, h_10, h_11, h_12, h_13, h_14, h_15, h_16⟩ := id hr
  have e11 : rArr g (10 + 265 * l) (10 + 265 * l + 11) = g (10 + 265 * l + 11) := rArr_out h_2.1 h_2.2 (by omega)
  have e9 : rArr g (10 + 265 * l) (10 + 265 * l + 9) = g (10 + 265 * l + 9) := rArr_out h_2.1 h_2.2 (by omega)
  have e7 : rArr g (10 + 265 * l) (10 + 265 * l + 7) = g (10 + 265 * l + 7) := rArr_out h_2.1 h_2.2 (by omega)
  have es : ∀ j, j < 10 → rArr g (10 + 265 * l) j = g j := fun j _ => rArr_out h_2.1 h_2.2 (by omega)
  have hlr := rLR_arr hr
  have hlw : zLawW w (rArr g (10 + 265 * l)) := fun j hj => (rArr_out h_2.1 h_2.2 (by omega)).trans (hw j hj)
  have c0 : rCome g (10 + 265 * l) 5 (f 1471) 0 = g (10 + 265 * l + (49 + 0)) := rCome_in (by omega) (by omega)
  have c1 : rCome g (10 + 265 * l) 5 (f 1471) 1 = g (10 + 265 * l + (49 + 1)) := rCome_in (by omega) (by omega)
  have c2 : rCome g (10 + 265 * l) 5 (f 1471) 2 = g (10 + 265 * l + (49 + 2)) := rCome_in (by omega) (by omega)
  have c4 : rCome g (10 + 265 * l) 5 (f 1471) 4 = g (10 + 265 * l + (49 + 4)) := rCome_in (by omega) (by omega)
  have fr0 : zFr f (zrow f 1471 (rCome g (10 + 265 * l) 5 (f 1471))) := zFr_row2 (by omega) zFr_refl
  rw [l_arr hl hl4 h_2.1 h_2.2 h_12 h_13]
  unfold kTake
  by_cases c : g (10 + 265 * l + (49 + 0)) = 2 ∧ g (10 + 265 * l + (49 + 3)) ≠ 1 ∧ g (10 + 265 * l + (49 + 2)) = g (10 + 265 * l + 11)
  · rw [if_pos c]
    obtain ⟨k0, k3, k2⟩ := c
    obtain ⟨f2, hz, hs, hv, hfr⟩ := hA (rArr g (10 + 265 * l)) hlw d (zrow f 1471 (rCome g (10 + 265 * l) 5 (f 1471))) t l (g (10 + 265 * l + (49 + 4))) (g (10 + 265 * l + 9)) (rRep (rArr g (10 + 265 * l)) (10 + 265 * l) (g (10 + 265 * l + (49 + 2)))) hl hl4 (ha k0).1 (ha k0).2 (by omega) (rRepS_01 _ _ _ (Or.inl rfl)) hlr (by rw [es 4 (by decide)]; exact h4) (by rw [es 4 (by decide)]; exact h49)
    have hb := hB (rFact (rArr g (10 + 265 * l)) l (g (10 + 265 * l + (49 + 4))) (g (10 + 265 * l + 9)) (rRep (rArr g (10 + 265 * l)) (10 + 265 * l) (g (10 + 265 * l + (49 + 2)))))
    have h71 : f2 1471 1 = g (10 + 265 * l + (49 + 1)) := by
      rw [hfr.1 1471 1 (by decide) (by decide) (by omega), zrow_r, c1]
    have hk := r_isTaken (q := q) (d := d + 59) (f := zrow f 1471 (rCome g (10 + 265 * l) 5 (f 1471))) (f2 := f2) (t := t) (g := rArr g (10 + 265 * l)) (l := l) hl hl4 (by omega) (by omega) (by omega) (by omega) (by rw [es 6 (by decide)]; exact w0) (by rw [es 6 (by decide)]; exact w9) (by rw [es 8 (by decide)]; exact g0) (by rw [es 8 (by decide)]; exact g60) (by have := ha k0; omega) (by have := ha k0; omega) (by
      have e0 : (if rArr g (10 + 265 * l) (10 + 265 * l + 9) = 1 then (1 : Int) else 0) = g (10 + 265 * l + 9) := by
        rw [e9]
        split <;> omega
      rw [e0, zrow_r, c2, c4]
      exact hz)
    refine ⟨f2, ?_, zFr_trans fr0 (zFrA_fr hfr)⟩
    rw [zb_M_arrives_135, if_neg (fun z => z k0), if_neg k3, zb_M_arrives_137, if_neg (fun z => z rfl), zb_M_arrives_139]
    simp only [Int.reduceAdd, zrow_ne (show (1471 : Int) ≠ 1465 by decide)]
    rw [zG2 (by omega) (by omega), zb_M_arrives_143, r_of (by omega) (by omega) (by omega) (by omega), zK_i, zrow_r, c2, e11, zb_M_arrives_147, if_neg (fun z => z k2), zb_M_arrives_148, hk, zK_v, zb_M_arrives_151, zG2 (by omega) (by omega), hv, h71]
    rfl
  · rw [if_neg c]
    refine ⟨zrow f 1471 (rCome g (10 + 265 * l) 5 (f 1471)), ?_, fr0⟩
    by_cases k0 : g (10 + 265 * l + (49 + 0)) = 2
    · by_cases k3 : g (10 + 265 * l + (49 + 3)) = 1
      · rw [zb_M_arrives_135, if_neg (fun z => z k0), if_pos k3, zb_M_arrives_137, if_pos (by decide), zb_M_arrives_151, zG2 (by omega) (by omega)]
      · rw [zb_M_arrives_135, if_neg (fun z => z k0), if_neg k3, zb_M_arrives_137, if_neg (fun z => z rfl), zb_M_arrives_139]
        simp only [Int.reduceAdd, zrow_ne (show (1471 : Int) ≠ 1465 by decide)]
        rw [zG2 (by omega) (by omega), zb_M_arrives_143, r_of (by omega) (by omega) (by omega) (by omega), zK_i, zrow_r, c2, e11, zb_M_arrives_147, if_pos (fun z => c ⟨k0, k3, z⟩), zb_M_arrives_151, zG2 (by omega) (by omega)]
    · rw [zb_M_arrives_135, if_pos k0, zb_M_arrives_151, zG2 (by split <;> omega) (by split <;> omega)]
