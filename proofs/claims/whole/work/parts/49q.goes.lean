/-! ## a line goes on, all lines pass -/
theorem r_endOn {q : Int × (Int → Int)} {d : Nat} {f : Int → Int → Int} {t : (Int → Int) × Nat × Nat × Nat × (Int → Int → Bool)} {g : Int → Int} {l dr bd : Int} (hl : 0 ≤ l) (hlm : l < g 3) (hm : g 3 ≤ 4) (hR : ∀ o, 0 ≤ o → o < g 3 → rLR g (10 + 265 * o)) (g0 : 0 ≤ g 8) (g60 : g 8 ≤ 60) (hb : bd = 0 ∨ bd = 1) :
    ∃ f2, zD (true, q) (d + 4) zc_M_goesOn (zat zc_M_goesOn 17) [(20, 1464, 0), (0, l, 0), (0, dr, 0), (0, bd, 0), (2, 0, 0)] [] (zrow f 1465 g, t) = some ((9, 0, 0), (zrow f2 1465 (kEnd g l bd), t)) ∧ zFr f f2 := by
  have hl4 : l < 4 := by omega
  obtain ⟨h_0, h_1, h_2, h_3, h_4, h_5, h_6, h_7, h_8, h_9, h_10, h_11, h_12, h_13, h_14, h_15, h_16⟩ := hR l hl hlm
  unfold kEnd
  rw [zb_M_goesOn_17, r_of hl hl4 (by decide) (by decide), zK_i, zb_M_goesOn_21]
  by_cases c1 : g (10 + 265 * l + 0) = 1
  · rw [if_neg (fun z => z c1), if_pos c1, zb_M_goesOn_23, r_isProved hl hl4 h_14 h_15 h_16 g0 g60, zK_v, zb_M_goesOn_27]
    refine ⟨f, ?_, zFr_refl⟩
    rcases hb with rfl | rfl
    · rw [if_pos rfl]
    · rw [if_neg (by decide)]
  · rw [if_pos c1, if_neg c1, zb_M_goesOn_28, r_of hl hl4 (by decide) (by decide), zK_i, zb_M_goesOn_32, r_of hl hl4 (by decide) (by decide), zK_i, zb_M_goesOn_36]
    by_cases c2 : g (10 + 265 * l + 5) < g (10 + 265 * l + 12)
    · rw [if_pos c2, if_pos c2, zb_M_goesOn_38, r_lays hl hl4 (by decide) (by decide), zK_v, zb_M_goesOn_43, r_of hl hl4 (by decide) (by decide), zK_i, zup1_ne (by omega), zb_M_goesOn_50, r_logs (by rw [zup1_ne (by omega)]; exact g0) (by rw [zup1_ne (by omega)]; exact g60), zK_v, zb_M_goesOn_51]
      have ez : ∀ j, j ≠ 10 + 265 * l + 0 → j ≠ 8 → (j < 1070 ∨ 1310 ≤ j) → rLog (zup1 g (10 + 265 * l + 0) 0) l 2 (g (10 + 265 * l + 12)) j = g j := fun j a b c => by rw [rLog_out b c, zup1_ne a]
      have e8 : 0 ≤ rLog (zup1 g (10 + 265 * l + 0) 0) l 2 (g (10 + 265 * l + 12)) 8 ∧ rLog (zup1 g (10 + 265 * l + 0) 0) l 2 (g (10 + 265 * l + 12)) 8 ≤ 60 := by
        rw [rLog_8, zup1_ne (by omega)]
        split <;> omega
      have e7 := ez (10 + 265 * l + 7) (by omega) (by omega) (by omega)
      have e3 := ez 3 (by omega) (by omega) (by omega)
      have ho : ∀ o, 0 ≤ o → o < g 3 → rLog (zup1 g (10 + 265 * l + 0) 0) l 2 (g (10 + 265 * l + 12)) (10 + 265 * o + 7) = g (10 + 265 * o + 7) ∧ rLog (zup1 g (10 + 265 * l + 0) 0) l 2 (g (10 + 265 * l + 12)) (10 + 265 * o + 6) = g (10 + 265 * o + 6) := fun o o0 o1 => ⟨ez _ (by omega) (by omega) (by omega), ez _ (by omega) (by omega) (by omega)⟩
      generalize rLog (zup1 g (10 + 265 * l + 0) 0) l 2 (g (10 + 265 * l + 12)) = u at *
      rw [r_goesOver hl (by omega) (by omega) (fun o o0 o1 => by
        have hh := hR o o0 (by omega)
        rw [(ho o o0 (by omega)).1, (ho o o0 (by omega)).2]
        exact ⟨hh.2.2.2.2.2.2.2.1.1, hh.2.2.2.2.2.2.2.1.2, hh.2.2.2.2.2.2.1⟩) e8.1 e8.2, zK_i, zb_M_goesOn_54, rGo_P (by omega) (by omega)]
      exact ⟨_, rfl, zFr_row2 (by omega) zFr_refl⟩
    · rw [if_neg c2, if_neg c2, zb_M_goesOn_37]
      exact ⟨f, rfl, zFr_refl⟩
theorem r_goesOn {q : Int × (Int → Int)} {d : Nat} {f : Int → Int → Int} {t : (Int → Int) × Nat × Nat × Nat × (Int → Int → Bool)} {g : Int → Int} {A : (Int → Int) → Int × Int} {w : Int → Int} {N l dr : Int} (hA : zAsk q A w) (hB : zAB A) (hw : zLawW w g) (hW : zWI N g) (hl : 0 ≤ l) (hlm : l < g 3) (N0 : 0 ≤ N) (hN9 : N < 2147483646) :
    ∃ f2, zM (true, q) (d + 63) 167 [(20, 1464, 0), (0, l, 0), (0, dr, 0)] (zrow f 1465 g, t) = some ((9, 0, 0), (zrow f2 1465 (kOn A g l dr), t)) ∧ zFr f f2 := by
  obtain ⟨h30, h34, hG, hL⟩ := id hW
  have hl4 : l < 4 := by omega
  have hBB : (10 : Int) ≤ 10 + 265 * l := by omega
  have hB2 : 10 + 265 * l + 265 ≤ 1070 := by omega
  have hIl := (hL l hl hlm).1
  obtain ⟨i2, g2, o2, _⟩ := zTwo (l := l) hB hBB hB2 hIl hG N0 hN9
  have hw2 : zLawW w (kTwo A g l (10 + 265 * l)) := fun j hj => (o2 j (by omega) (by omega)).trans (hw j hj)
  have g3 := zGR_send (A := A) (l := l) (dr := dr) hBB hB2 i2.1 g2
  have o3 := zOut_trans o2 (zOut_send (A := A) (l := l) (dr := dr) hBB hB2 i2.1)
  have i3 := zLI_send (A := A) (l := l) (dr := dr) hBB hB2 i2 N0 hN9
  have it := zLI_take (A := A) (l := l) hBB hB2 hIl
  obtain ⟨fa, ha, hfa⟩ := r_arrives (d := d) (f := f) (t := t) (l := l) hA hB hw hl hl4 hIl.1 (fun z => by
    have := (hIl.2.2.2.1 0 (by decide) (by decide)).2.2.2 z
    have h4 : 1 ≤ g (10 + 265 * l + (49 + 4)) ∧ g (10 + 265 * l + (49 + 4)) ≤ 9 := ⟨this.1, this.2.1⟩
    omega) hG.1.1 hG.1.2 hG.2.2.1.1 hG.2.2.1.2 hG.2.2.2.1 hG.2.2.2.2
  have e0 : kTake A g l (10 + 265 * l) (10 + 265 * l + 0) = g (10 + 265 * l + 0) := kTake_f hBB hB2 hIl.1 (by decide) (by decide)
  have h2 : ∀ bd : Int, zD (true, q) (d + 62 + 1) zc_M_goesOn (zat zc_M_goesOn 3) [(20, 1464, 0), (0, l, 0), (0, dr, 0), (2, 0, 0), (2, 0, 0)] [(0, bd, 0)] (zrow fa 1465 (kTake A g l (10 + 265 * l)), t) = zD (true, q) (d + 62 + 1) zc_M_goesOn (zat zc_M_goesOn 13) [(20, 1464, 0), (0, l, 0), (0, dr, 0), (0, bd, 0), (2, 0, 0)] [] (zrow fa 1465 (kTwo A g l (10 + 265 * l)), t) := by
    intro bd
    rw [zb_M_goesOn_3, r_of hl hl4 (by decide) (by decide), zK_i, e0, zb_M_goesOn_8]
    unfold kTwo
    by_cases c : g (10 + 265 * l + 0) = 2
    · rw [if_neg (fun z => z c), if_pos c, zb_M_goesOn_10, r_hasReply (d := d + 59) hl hl4 it.1.2.2.1.1 it.1.2.2.1.2 it.1.2.2.2.2.2.2.2.1.1 it.1.2.2.2.2.2.2.2.1.2 it.1.2.2.2.2.2.2.2.2.1.1 (by have := it.1.2.2.2.2.2.2.2.2.1.2; omega), zK_v]
    · rw [if_pos c, if_neg c]
  obtain ⟨fb, hb, hfb⟩ := r_sends (d := d + 1) (f := fa) (t := t) (dr := dr) hA hw2 hl hl4 i2.1 i2.2.1 i2.2.2.1.1 i2.2.2.1.2.1 g2.1.1 g2.1.2 g2.2.2.2.1 g2.2.2.2.2
  have hR3 : ∀ o, 0 ≤ o → o < kSend A (kTwo A g l (10 + 265 * l)) l (10 + 265 * l) dr 3 → rLR (kSend A (kTwo A g l (10 + 265 * l)) l (10 + 265 * l) dr) (10 + 265 * o) := by
    intro o o0 o1
    rw [o3 3 (by omega) (by omega)] at o1
    by_cases c : o = l
    · subst c
      exact i3.1
    · exact rLR_eq (fun j h1 h2 => o3 j (by omega) (by omega)) (hL o o0 o1).1.1
  have e3 := o3 3 (by omega) (by omega)
  obtain ⟨fc, hc, hfc⟩ := r_endOn (q := q) (d := d + 59) (f := fb) (t := t) (dr := dr) (bd := if g (10 + 265 * l + (49 + 3)) = 1 then 1 else 0) hl (by omega) (by omega) hR3 g3.2.2.2.1 g3.2.2.2.2 (by split <;> omega)
  refine ⟨fc, ?_, zFr_trans hfa (zFr_trans hfb hfc)⟩
  rw [ze_M_goesOn, zb_M_goesOn_0, ha, zK_i, h2, zb_M_goesOn_13, hb, zK_v]
  exact hc
/-! ### all lines -/
def kPassS (A : (Int → Int) → Int × Int) (dr : Int) : Nat → Int → (Int → Int) → (Int → Int)
  | 0, _, g => g
  | n + 1, l, g => kPassS A dr n (l + 1) (if g (10 + 265 * l + 0) = 0 then g else kOn A g l dr)
def kTick (g : Int → Int) : Int → Int := zup1 g 4 (if g 4 + 1 ≤ 9999 then g 4 + 1 else 9999)
def kPass (A : (Int → Int) → Int × Int) (dr : Int) (g : Int → Int) : Int → Int := kTick (kPassS A dr (g 3).toNat 0 g)
def kGoes (A : (Int → Int) → Int × Int) (dr : Int) : Nat → (Int → Int) → (Int → Int)
  | 0, g => g
  | n + 1, g => kGoes A dr n (kPass A dr g)
theorem zWI_mono {N M : Int} {g : Int → Int} (h : N ≤ M) (a : zWI N g) : zWI M g := ⟨a.1, a.2.1, zGR_mono h a.2.2.1, fun o o0 o1 => ⟨zLI_mono h (a.2.2.2 o o0 o1).1, (a.2.2.2 o o0 o1).2⟩⟩
theorem zWI_passS {A : (Int → Int) → Int × Int} {dr : Int} (hA : zAB A) : ∀ (n : Nat) (l N : Int) (g : Int → Int), zWI N g → 0 ≤ l → l + n = g 3 → 0 ≤ N → N + n < 2147483646 → zWI (N + n) (kPassS A dr n l g) ∧ (∀ j, (j < 4 ∨ j = 7 ∨ 1310 ≤ j) → kPassS A dr n l g j = g j) ∧ kPassS A dr n l g 4 = g 4 := by
  intro n
  induction n with
  | zero =>
    intro l N g hW _ _ _ _
    exact ⟨zWI_mono (by omega) hW, fun _ _ => rfl, rfl⟩
  | succ n ih =>
    intro l N g hW hl hn N0 hN
    have h1 : zWI (N + 1) (if g (10 + 265 * l + 0) = 0 then g else kOn A g l dr) ∧ (∀ j, (j < 4 ∨ j = 7 ∨ 1310 ≤ j) → (if g (10 + 265 * l + 0) = 0 then g else kOn A g l dr) j = g j) ∧ (if g (10 + 265 * l + 0) = 0 then g else kOn A g l dr) 4 = g 4 := by
      split
      · exact ⟨zWI_mono (by omega) hW, fun _ _ => rfl, rfl⟩
      · exact zWI_on hA hW hl (by omega) N0 (by omega)
    obtain ⟨a, b, c⟩ := h1
    show zWI _ (kPassS A dr n (l + 1) (if g (10 + 265 * l + 0) = 0 then g else kOn A g l dr)) ∧ (∀ j, (j < 4 ∨ j = 7 ∨ 1310 ≤ j) → kPassS A dr n (l + 1) (if g (10 + 265 * l + 0) = 0 then g else kOn A g l dr) j = g j) ∧ kPassS A dr n (l + 1) (if g (10 + 265 * l + 0) = 0 then g else kOn A g l dr) 4 = g 4
    generalize (if g (10 + 265 * l + 0) = 0 then g else kOn A g l dr) = h at a b c ⊢
    have e3 := b 3 (by omega)
    obtain ⟨x, y, z⟩ := ih (l + 1) (N + 1) h a (by omega) (by omega) (by omega) (by omega)
    refine ⟨zWI_mono (by omega) x, fun j hj => (y j hj).trans (b j hj), z.trans c⟩
theorem zWI_tick {N : Int} {g : Int → Int} (h : zWI N g) : zWI N (kTick g) := by
  obtain ⟨a, b, c, e⟩ := h
  have e3 : kTick g 3 = g 3 := zup1_ne (by decide)
  refine ⟨by omega, by omega, ?_, fun o o0 o1 => ?_⟩
  · unfold zGR kTick
    rw [zup1_eq rfl, zup1_ne (by decide), zup1_ne (by decide), zup1_ne (by decide)]
    refine ⟨?_, c.2⟩
    have := c.1
    split <;> omega
  · have hh := e o o0 (by omega)
    refine ⟨zLI_eq (fun j h1 h2 => zup1_ne (by omega)) hh.1, ?_⟩
    unfold kTick
    rw [zup1_ne (by omega), zup1_ne (by omega)]
    exact hh.2
theorem zWI_pass {A : (Int → Int) → Int × Int} {dr N : Int} {g : Int → Int} (hA : zAB A) (hW : zWI N g) (N0 : 0 ≤ N) (hN : N + 4 < 2147483646) : zWI (N + 4) (kPass A dr g) ∧ (∀ j, (j < 4 ∨ j = 7 ∨ 1310 ≤ j) → kPass A dr g j = g j) := by
  obtain ⟨a, b, c⟩ := zWI_passS (dr := dr) hA (g 3).toNat 0 N g hW (by decide) (by have := hW.1; omega) N0 (by have := hW.2.1; omega)
  refine ⟨zWI_tick (zWI_mono (by have := hW.2.1; omega) a), fun j hj => ?_⟩
  unfold kPass kTick
  rw [zup1_ne (by omega)]
  exact b j hj
theorem zWI_goes {A : (Int → Int) → Int × Int} {dr : Int} (hA : zAB A) : ∀ (n : Nat) (N : Int) (g : Int → Int), zWI N g → 0 ≤ N → N + 4 * n < 2147483646 → zWI (N + 4 * n) (kGoes A dr n g) ∧ (∀ j, (j < 4 ∨ j = 7 ∨ 1310 ≤ j) → kGoes A dr n g j = g j) := by
  intro n
  induction n with
  | zero =>
    intro N g hW _ _
    exact ⟨zWI_mono (by omega) hW, fun _ _ => rfl⟩
  | succ n ih =>
    intro N g hW N0 hN
    obtain ⟨a, b⟩ := zWI_pass (dr := dr) hA hW N0 (by omega)
    obtain ⟨x, y⟩ := ih (N + 4) _ a (by omega) (by omega)
    exact ⟨zWI_mono (by omega) x, fun j hj => (y j hj).trans (b j hj)⟩
theorem zLawW_eq {w g h : Int → Int} (e : ∀ j, (j < 4 ∨ j = 7 ∨ 1310 ≤ j) → h j = g j) (hw : zLawW w g) : zLawW w h := fun j hj => (e j (by omega)).trans (hw j hj)
theorem l_passes {q : Int × (Int → Int)} {d : Nat} {t : (Int → Int) × Nat × Nat × Nat × (Int → Int → Bool)} {A : (Int → Int) → Int × Int} {w : Int → Int} {dr : Int} (hA : zAsk q A w) (hB : zAB A) : ∀ (n : Nat) (l N : Int) (f : Int → Int → Int) (g : Int → Int), zLawW w g → zWI N g → 0 ≤ l → l + n = g 3 → 0 ≤ N → N + n < 2147483646 →
    ∃ f2, zD (true, q) (d + 64) zc_M_passes (zat zc_M_passes 2) [(20, 1464, 0), (0, dr, 0), (0, l, 0)] [] (zrow f 1465 g, t) = some ((9, 0, 0), (zrow f2 1465 (kTick (kPassS A dr n l g)), t)) ∧ zFr f f2 := by
  intro n
  induction n with
  | zero =>
    intro l N f g hw hW hl hn N0 hN
    refine ⟨f, ?_, zFr_refl⟩
    obtain ⟨h30, h34, hG, hL⟩ := hW
    have h4 := hG.1
    rw [zb_M_passes_2]
    simp only [Int.reduceAdd, zrow_r]
    rw [zG2 (by omega) (by omega), zb_M_passes_7, if_pos (by omega), zb_M_passes_19]
    simp only [Int.reduceAdd, zrow_r]
    rw [zG2 (by omega) (by omega), zb_M_passes_27, zw_id (by omega) (by omega), r_lesser, zK_i, zb_M_passes_30]
    simp only [zrow_in]
    rw [zG2 (by omega) (by omega), zb_M_passes_31]
    rfl
  | succ n ih =>
    intro l N f g hw hW hl hn N0 hN
    have h30 := hW.1
    have h34 := hW.2.1
    rw [zb_M_passes_2]
    simp only [Int.reduceAdd, zrow_r]
    rw [zG2 (by omega) (by omega), zb_M_passes_7, if_neg (by omega), zb_M_passes_8, r_of hl (by omega) (by decide) (by decide), zK_i, zb_M_passes_12]
    show ∃ f2, _ = some ((9, 0, 0), (zrow f2 1465 (kTick (kPassS A dr n (l + 1) (if g (10 + 265 * l + 0) = 0 then g else kOn A g l dr))), t)) ∧ zFr f f2
    by_cases c : g (10 + 265 * l + 0) = 0
    · rw [if_pos c, if_pos c, zb_M_passes_17, zw_id (by omega) (by omega)]
      exact ih (l + 1) N f g hw hW (by omega) (by omega) N0 (by omega)
    · obtain ⟨fa, ha, hfa⟩ := r_goesOn (d := d) (f := f) (t := t) (dr := dr) hA hB hw hW hl (by omega) N0 (by omega)
      rw [if_neg c, if_neg c, zb_M_passes_13, ha, zK_v, zb_M_passes_17, zw_id (by omega) (by omega)]
      obtain ⟨a, b, _⟩ := zWI_on (dr := dr) hB hW hl (by omega) N0 (by omega)
      obtain ⟨fb, hb, hfb⟩ := ih (l + 1) (N + 1) fa _ (zLawW_eq b hw) a (by omega) (by rw [b 3 (by omega)]; omega) (by omega) (by omega)
      exact ⟨fb, hb, zFr_trans hfa hfb⟩
theorem r_passes {q : Int × (Int → Int)} {d : Nat} {f : Int → Int → Int} {t : (Int → Int) × Nat × Nat × Nat × (Int → Int → Bool)} {g : Int → Int} {A : (Int → Int) → Int × Int} {w : Int → Int} {N dr : Int} (hA : zAsk q A w) (hB : zAB A) (hw : zLawW w g) (hW : zWI N g) (N0 : 0 ≤ N) (hN : N + 4 < 2147483646) :
    ∃ f2, zM (true, q) (d + 64) 168 [(20, 1464, 0), (0, dr, 0)] (zrow f 1465 g, t) = some ((9, 0, 0), (zrow f2 1465 (kPass A dr g), t)) ∧ zFr f f2 := by
  rw [ze_M_passes, zb_M_passes_0]
  exact l_passes hA hB (g 3).toNat 0 N f g hw hW (by decide) (by have := hW.1; omega) N0 (by have := hW.2.1; omega)
theorem l_goes {q : Int × (Int → Int)} {d : Nat} {t : (Int → Int) × Nat × Nat × Nat × (Int → Int → Bool)} {A : (Int → Int) → Int × Int} {w : Int → Int} {dr m x : Int} (hA : zAsk q A w) (hB : zAB A) (hm : m ≤ 60) : ∀ (n : Nat) (i N : Int) (f : Int → Int → Int) (g : Int → Int), zLawW w g → zWI N g → 0 ≤ i → i + n = m → 0 ≤ N → N + 4 * n < 2147483646 →
    ∃ f2, zD (true, q) (d + 65) zc_M_goes (zat zc_M_goes 7) [(20, 1464, 0), (0, m, 0), (0, dr, 0), (0, x, 0), (0, i, 0)] [] (zrow f 1465 g, t) = some ((0, zw (kGoes A dr n g 5 - x), 0), (zrow f2 1465 (kGoes A dr n g), t)) ∧ zFr f f2 := by
  intro n
  induction n with
  | zero =>
    intro i N f g hw hW hi hn N0 hN
    refine ⟨f, ?_, zFr_refl⟩
    rw [zb_M_goes_7, if_pos (by omega), zb_M_goes_15]
    simp only [Int.reduceAdd, zrow_r]
    rw [zG2 (by omega) (by omega), zb_M_goes_19]
    rfl
  | succ n ih =>
    intro i N f g hw hW hi hn N0 hN
    obtain ⟨fa, ha, hfa⟩ := r_passes (d := d) (f := f) (t := t) (dr := dr) hA hB hw hW N0 (by omega)
    obtain ⟨a, b⟩ := zWI_pass (dr := dr) hB hW N0 (by omega)
    rw [zb_M_goes_7, if_neg (by omega), zb_M_goes_10, ha, zK_v, zb_M_goes_13, zw_id (by omega) (by omega)]
    obtain ⟨fb, hb, hfb⟩ := ih (i + 1) (N + 4) fa _ (zLawW_eq b hw) a (by omega) (by omega) (by omega) (by omega)
    exact ⟨fb, hb, zFr_trans hfa hfb⟩
theorem r_goes {q : Int × (Int → Int)} {d : Nat} {f : Int → Int → Int} {t : (Int → Int) × Nat × Nat × Nat × (Int → Int → Bool)} {g : Int → Int} {A : (Int → Int) → Int × Int} {w : Int → Int} {N dr m : Int} (hA : zAsk q A w) (hB : zAB A) (hw : zLawW w g) (hW : zWI N g) (N0 : 0 ≤ N) (hN : N + 240 < 2147483646) (m0 : 0 ≤ m) (m60 : m ≤ 60) :
    ∃ f2, zM (true, q) (d + 65) 169 [(20, 1464, 0), (0, m, 0), (0, dr, 0)] (zrow f 1465 g, t) = some ((0, zw (kGoes A dr m.toNat g 5 - g 5), 0), (zrow f2 1465 (kGoes A dr m.toNat g), t)) ∧ zFr f f2 := by
  rw [ze_M_goes, zb_M_goes_0]
  simp only [Int.reduceAdd, zrow_r]
  rw [zG2 (by omega) (by omega), zb_M_goes_4]
  exact l_goes hA hB m60 m.toNat 0 N f g hw hW (by decide) (by omega) N0 (by omega)
