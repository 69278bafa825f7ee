/-! ## the class reads what stands alone -/
theorem CX_fp {f f1 f2 : Int → Int → Int} {w : Int → Int} {a T n : Int} {u : Int → Int} {x : Bool × Int × List Int} (ha : a + 7 ≤ T) (h4 : f a 7 ≤ 400) (e : zFP T f f1) (h : CX f1 f2 w a T u n (f1 a 7) x) : CX f f2 w a T u n (f a 7) x := by
  obtain ⟨E, s7, s5⟩ := zCE_fp ha (zCE_refl h4) e
  obtain ⟨h1, h2, h3⟩ := h
  rw [s7] at h2
  exact ⟨zCE_trans E h1, h2, h3⟩
theorem lc_head {q : Int × (Int → Int)} {d : Nat} {t : (Int → Int) × Nat × Nat × Nat × (Int → Int → Bool)} {f : Int → Int → Int} {a T n D p W : Int} {u : Int → Int} (hT : zTC f t.1 T u n p (-1)) (hW : txT u n p = W) (y : Option (zV × zS)) (h1 : ¬(W = 25 ∨ W = 4) → zD (true, q) (d + 1) zc_Law_readAtom (zat zc_Law_readAtom 24) [(12, a, 0), (15, T, 0), (0, D, 0), (5, W, 0), (0, 0, 0), (2, 0, 0)] [] (f, t) = y) (h2 : (W = 25 ∨ W = 4) → D < 6 → zD (true, q) (d + 1) zc_Law_readAtom (zat zc_Law_readAtom 24) [(12, a, 0), (15, T, 0), (0, D, 0), (5, W, 0), (0, 1, 0), (2, 0, 0)] [] (f, t) = y) (h3 : (W = 25 ∨ W = 4) → ¬D < 6 → zD (true, q) (d + 1) zc_Law_readAtom (zat zc_Law_readAtom 21) [(12, a, 0), (15, T, 0), (0, D, 0), (5, W, 0), (0, 1, 0), (2, 0, 0)] [] (f, t) = y) : zM (true, q) (d + 1) 90 [(12, a, 0), (15, T, 0), (0, D, 0)] (f, t) = y := by
  have r1 : zM (true, q) d 44 [(15, T, 0)] (f, t) = some ((5, W, 0), (f, t)) := by rw [c_word (σ := (f, t)) hT, hW]
  have r2 : zM (true, q) d 46 [(15, T, 0)] (f, t) = some ((0, 0, 0), (f, t)) := by
    rw [c_failed (σ := (f, t)) hT, if_pos rfl]
  rw [ze_Law_readAtom, zb_Law_readAtom_0, r1]
  show zD (true, q) (d + 1) zc_Law_readAtom (zat zc_Law_readAtom 2) [(12, a, 0), (15, T, 0), (0, D, 0), (2, 0, 0), (2, 0, 0), (2, 0, 0)] [(5, W, 0)] (f, t) = y
  rw [zb_Law_readAtom_2]
  have opens : (W = 25 ∨ W = 4) → zD (true, q) (d + 1) zc_Law_readAtom (zat zc_Law_readAtom 9) [(12, a, 0), (15, T, 0), (0, D, 0), (5, W, 0), (2, 0, 0), (2, 0, 0)] [] (f, t) = y := by
    intro c
    rw [zb_Law_readAtom_9, r2, zK_i, zb_Law_readAtom_15, if_neg (by decide), zb_Law_readAtom_16, if_neg (by decide), zb_Law_readAtom_18]
    by_cases c6 : D < 6
    · rw [if_pos c6]
      exact h2 c c6
    · rw [if_neg c6]
      exact h3 c c6
  by_cases c : W = 25
  · rw [if_pos c]
    exact opens (Or.inl c)
  · rw [if_neg c, zb_Law_readAtom_6]
    by_cases c4 : W = 4
    · rw [if_neg (by omega)]
      exact opens (Or.inr c4)
    · rw [if_pos c4, zb_Law_readAtom_11, r2, zK_i, zb_Law_readAtom_15, if_neg (by decide), zb_Law_readAtom_16, if_pos rfl]
      exact h1 (by omega)
theorem lc_rest {q : Int × (Int → Int)} {d : Nat} {t : (Int → Int) × Nat × Nat × Nat × (Int → Int → Bool)} {f : Int → Int → Int} {a T n D p W : Int} {u : Int → Int} (ha : a + 7 ≤ T) (b0 : 0 ≤ f a 7) (h7 : f a 7 ≤ p) (hT : zTC f t.1 T u n p (-1)) (hW : txT u n p = W) (hno : ¬(W = 25 ∨ W = 4)) {x4 : Int} : ∃ f2, zD (true, q) (d + 4) zc_Law_readAtom (zat zc_Law_readAtom 24) [(12, a, 0), (15, T, 0), (0, D, 0), (5, W, 0), (0, x4, 0), (2, 0, 0)] [] (f, t) = some ((9, 0, 0), (f2, t)) ∧ CX f f2 t.1 a T u n (f a 7) (pPlain u n p) := by
  have hp := zTC_p hT
  obtain ⟨f1, r1, T1, fr1⟩ := c_passes (q := q) (d := d + 2) (σ := (f, t)) (W := 25) hT (by decide)
  rw [if_neg (by omega)] at r1 T1
  have r1 : zM (true, q) (d + 3) 47 [(15, T, 0), (5, 25, 0)] (f, t) = some ((0, 0, 0), (f1, t)) := r1
  obtain ⟨f2, r2, T2, fr2⟩ := c_passes (q := q) (d := d + 2) (σ := (f1, t)) (W := 4) T1 (by decide)
  rw [if_neg (by omega)] at r2 T2
  have r2 : zM (true, q) (d + 3) 47 [(15, T, 0), (5, 4, 0)] (f1, t) = some ((0, 0, 0), (f2, t)) := r2
  have fr := zFP_trans fr1 fr2
  have s7 : f2 a 7 = f a 7 := fr _ _ (by omega)
  obtain ⟨f3, r3, x3⟩ := c_plain (q := q) (d := d) (D := D) (x4 := x4) ha (by omega) (by omega) T2 hW
  refine ⟨f3, ?_, CX_fp ha (show f a 7 ≤ 400 by omega) fr x3⟩
  rw [zb_Law_readAtom_24, r1, zK_i, zb_Law_readAtom_27, if_pos rfl, zb_Law_readAtom_38, r2, zK_i, zb_Law_readAtom_41, if_pos rfl]
  exact r3
theorem c_atom {q : Int × (Int → Int)} {t : (Int → Int) × Nat × Nat × Nat × (Int → Int → Bool)} {a T n : Int} {u : Int → Int} (ha : a + 7 ≤ T) : ∀ (r : Nat), r ≤ 6 → CAt q t a T u n (pAt u n r) (6 - r) (2 * r + 4) := by
  intro r
  induction r with
  | zero =>
    intro hr d f p hT b0 h7
    have hp := zTC_p hT
    have e0 : pAt u n 0 p = if txT u n p = 25 ∨ txT u n p = 4 then pNo p else pPlain u n p := rfl
    rw [e0]
    by_cases c : txT u n p = 25 ∨ txT u n p = 4
    · rw [if_pos c]
      obtain ⟨f1, r1, T1, fr1⟩ := c_fail (q := q) (d := d + 3) (σ := (f, t)) hT
      rw [if_pos rfl] at T1
      refine ⟨f1, ?_, (zCE_fp ha (zCE_refl (show f a 7 ≤ 400 by omega)) fr1).1, fun z => absurd z Bool.false_ne_true, fun _ => ⟨show p ≠ -1 by omega, p, T1⟩⟩
      have r1 : zM (true, q) (d + 3) 45 [(15, T, 0)] (f, t) = some ((9, 0, 0), (f1, t)) := r1
      refine lc_head (d := d + 3) hT rfl _ (fun z => absurd c z) (fun _ z => absurd z (by decide)) (fun _ _ => ?_)
      rw [zb_Law_readAtom_21, r1, zK_v, zb_Law_readAtom_23]
    · rw [if_neg c]
      obtain ⟨f1, r1, x1⟩ := lc_rest (q := q) (d := d) (D := 6 - ((0 : Nat) : Int)) (x4 := 0) ha b0 h7 hT rfl c
      exact ⟨f1, lc_head (d := d + 3) hT rfl _ (fun _ => r1) (fun z => absurd z c) (fun z => absurd z c), x1⟩
  | succ r ih =>
    intro hr d f p hT b0 h7
    have ih := ih (by omega)
    have hp := zTC_p hT
    have e0 : pAt u n (r + 1) p = if txT u n p = 25 then (if (pAt u n r (txN u n p)).1 = true then (true, (pAt u n r (txN u n p)).2.1, (pAt u n r (txN u n p)).2.2 ++ [-101]) else (false, (pAt u n r (txN u n p)).2.1, [])) else if txT u n p = 4 then (if (pSo u n (pAt u n r) (txN u n p)).1 = true then (if txT u n (pSo u n (pAt u n r) (txN u n p)).2.1 = 5 then (true, txN u n (pSo u n (pAt u n r) (txN u n p)).2.1, (pSo u n (pAt u n r) (txN u n p)).2.2) else pNo (pSo u n (pAt u n r) (txN u n p)).2.1) else (false, (pSo u n (pAt u n r) (txN u n p)).2.1, [])) else pPlain u n p := rfl
    have hD : zw (6 - ((r + 1 : Nat) : Int) + 1) = 6 - (r : Int) := by
      rw [zw_id (by omega) (by omega)]
      omega
    have hD6 : 6 - ((r + 1 : Nat) : Int) < 6 := by omega
    rw [e0]
    generalize hDD : 6 - ((r + 1 : Nat) : Int) = D at *
    by_cases c : txT u n p = 25
    · rw [if_pos c]
      have hN := txN_rng (u := u) (txT_lt (u := u) (n := n) (p := p) (by omega))
      obtain ⟨f1, r1, T1, fr1⟩ := c_passes (q := q) (d := d + (2 * r + 4)) (σ := (f, t)) (W := 25) hT (by decide)
      rw [if_pos ⟨rfl, c⟩] at r1 T1
      have r1 : zM (true, q) (d + (2 * r + 4) + 1) 47 [(15, T, 0), (5, 25, 0)] (f, t) = some ((0, 1, 0), (f1, t)) := r1
      have s7 : f1 a 7 = f a 7 := fr1 _ _ (by omega)
      have s5 : f1 (a + 5) = f (a + 5) := funext fun k => fr1 _ _ (by omega)
      obtain ⟨f2, r2, x2⟩ := ih (d + 1) f1 _ T1 (by omega) (by omega)
      have x2 := CX_fp ha (show f a 7 ≤ 400 by omega) fr1 x2
      have r2 : zM (true, q) (d + (2 * r + 4) + 1) 90 [(12, a, 0), (15, T, 0), (0, 6 - (r : Int), 0)] (f1, t) = some ((9, 0, 0), (f2, t)) := by
        rw [show d + (2 * r + 4) + 1 = d + 1 + (2 * r + 4) by omega]
        exact r2
      have run : ∀ y, zD (true, q) (d + (2 * r + 4) + 2) zc_Law_readAtom (zat zc_Law_readAtom 34) [(12, a, 0), (15, T, 0), (0, D, 0), (5, txT u n p, 0), (0, 1, 0), (2, 0, 0)] [] (f2, t) = y → zM (true, q) (d + (2 * (r + 1) + 4)) 90 [(12, a, 0), (15, T, 0), (0, D, 0)] (f, t) = y := by
        intro y hy
        refine lc_head (d := d + (2 * r + 4) + 1) hT rfl y (fun z => absurd (Or.inl c) z) (fun _ _ => ?_) (fun _ z => absurd hD6 z)
        rw [zb_Law_readAtom_24, r1, zK_i, zb_Law_readAtom_27, if_neg (by decide), zb_Law_readAtom_28, hD, r2, zK_v]
        exact hy
      have emi : ∀ f3, zM (true, q) (d + (2 * r + 4) + 1) 88 [(12, a, 0), (0, -101, 0)] (f2, t) = some ((9, 0, 0), (f3, t)) → zD (true, q) (d + (2 * r + 4) + 2) zc_Law_readAtom (zat zc_Law_readAtom 34) [(12, a, 0), (15, T, 0), (0, D, 0), (5, txT u n p, 0), (0, 1, 0), (2, 0, 0)] [] (f2, t) = some ((9, 0, 0), (f3, t)) := by
        intro f3 r3
        rw [zb_Law_readAtom_34, r3, zK_v, zb_Law_readAtom_37]
      by_cases hx : (pAt u n r (txN u n p)).1 = true
      · rw [if_pos hx]
        have hg := pAt_go r _ hx
        have hl := CX_len x2 hx (pAt_q r _)
        obtain ⟨T2, s2⟩ := x2.2.1 hx
        obtain ⟨f3, r3, E3, T3, m3, k3⟩ := c_emitE (q := q) (d := d + (2 * r + 4)) (v := -101) ha b0 x2.1 T2
        obtain ⟨k4, k5⟩ := k3 (by omega)
        exact ⟨f3, run _ (emi _ r3), E3, fun _ => ⟨T3, k5 _ s2⟩, fun z => absurd rfl z⟩
      · rw [if_neg hx]
        obtain ⟨h1, p2, T2⟩ := x2.2.2 hx
        obtain ⟨f3, r3, E3, T3, m3, k3⟩ := c_emitE (q := q) (d := d + (2 * r + 4)) (v := -101) ha b0 x2.1 T2
        exact ⟨f3, run _ (emi _ r3), E3, fun z => absurd z Bool.false_ne_true, fun _ => ⟨h1, p2, T3⟩⟩
    · rw [if_neg c]
      by_cases c4 : txT u n p = 4
      · rw [if_pos c4]
        have hN := txN_rng (u := u) (txT_lt (u := u) (n := n) (p := p) (by omega))
        obtain ⟨f0, r0, T0, fr0⟩ := c_passes (q := q) (d := d + (2 * r + 4)) (σ := (f, t)) (W := 25) hT (by decide)
        rw [if_neg (by omega)] at r0 T0
        have r0 : zM (true, q) (d + (2 * r + 4) + 1) 47 [(15, T, 0), (5, 25, 0)] (f, t) = some ((0, 0, 0), (f0, t)) := r0
        obtain ⟨f1, r1, T1, fr1⟩ := c_passes (q := q) (d := d + (2 * r + 4)) (σ := (f0, t)) (W := 4) T0 (by decide)
        rw [if_pos ⟨rfl, c4⟩] at r1 T1
        have r1 : zM (true, q) (d + (2 * r + 4) + 1) 47 [(15, T, 0), (5, 4, 0)] (f0, t) = some ((0, 1, 0), (f1, t)) := r1
        have fr := zFP_trans fr0 fr1
        have s7 : f1 a 7 = f a 7 := fr _ _ (by omega)
        obtain ⟨f2, r2, x2⟩ := c_cond (q := q) (d := d) (e := 2 * r) ha ih (pAt_go r) (pAt_q r) T1 (by omega) (by omega)
        have x2 := CX_fp ha (show f a 7 ≤ 400 by omega) fr x2
        have run : ∀ y, zD (true, q) (d + (2 * r + 4) + 2) zc_Law_readAtom (zat zc_Law_readAtom 48) [(12, a, 0), (15, T, 0), (0, D, 0), (5, txT u n p, 0), (0, 1, 0), (2, 0, 0)] [] (f2, t) = y → zM (true, q) (d + (2 * (r + 1) + 4)) 90 [(12, a, 0), (15, T, 0), (0, D, 0)] (f, t) = y := by
          intro y hy
          refine lc_head (d := d + (2 * r + 4) + 1) hT rfl y (fun z => absurd (Or.inr c4) z) (fun _ _ => ?_) (fun _ z => absurd hD6 z)
          rw [zb_Law_readAtom_24, r0, zK_i, zb_Law_readAtom_27, if_pos rfl, zb_Law_readAtom_38, r1, zK_i, zb_Law_readAtom_41, if_neg (by decide), zb_Law_readAtom_42, hD, r2, zK_v]
          exact hy
        have emi : ∀ f3, zM (true, q) (d + (2 * r + 4) + 1) 49 [(15, T, 0), (5, 5, 0)] (f2, t) = some ((9, 0, 0), (f3, t)) → zD (true, q) (d + (2 * r + 4) + 2) zc_Law_readAtom (zat zc_Law_readAtom 48) [(12, a, 0), (15, T, 0), (0, D, 0), (5, txT u n p, 0), (0, 1, 0), (2, 0, 0)] [] (f2, t) = some ((9, 0, 0), (f3, t)) := by
          intro f3 r3
          rw [zb_Law_readAtom_48, r3, zK_v, zb_Law_readAtom_51]
        by_cases hx : (pSo u n (pAt u n r) (txN u n p)).1 = true
        · rw [if_pos hx]
          have hg := pSo_go (pAt_go r) _ hx
          obtain ⟨T2, s2⟩ := x2.2.1 hx
          generalize (pSo u n (pAt u n r) (txN u n p)).2.1 = p1 at *
          obtain ⟨f3, r3, T3, fr3⟩ := c_needs (q := q) (d := d + (2 * r + 3)) (σ := (f2, t)) (W := 5) T2 (by decide)
          obtain ⟨E3, s73, s53⟩ := zCE_fp ha x2.1 fr3
          by_cases c5 : txT u n p1 = 5
          · rw [if_pos c5]
            rw [if_pos ⟨rfl, c5⟩, if_neg (fun z => z.2 c5)] at T3
            exact ⟨f3, run _ (emi _ r3), E3, fun _ => ⟨T3, by rw [s53, s73]; exact s2⟩, fun z => absurd rfl z⟩
          · rw [if_neg c5]
            rw [if_neg (fun z => c5 z.2), if_pos ⟨rfl, c5⟩] at T3
            exact ⟨f3, run _ (emi _ r3), E3, fun z => absurd z Bool.false_ne_true, fun _ => ⟨show p1 ≠ -1 by omega, _, T3⟩⟩
        · rw [if_neg hx]
          obtain ⟨h1, p2, T2⟩ := x2.2.2 hx
          obtain ⟨f3, r3, T3, fr3⟩ := c_needs (q := q) (d := d + (2 * r + 3)) (σ := (f2, t)) (W := 5) T2 (by decide)
          obtain ⟨E3, s73, s53⟩ := zCE_fp ha x2.1 fr3
          rw [if_neg (fun z => h1 z.1), if_neg (fun z => h1 z.1)] at T3
          exact ⟨f3, run _ (emi _ r3), E3, fun z => absurd z Bool.false_ne_true, fun _ => ⟨h1, p2, T3⟩⟩
      · rw [if_neg c4]
        have hno : ¬(txT u n p = 25 ∨ txT u n p = 4) := by omega
        obtain ⟨f1, r1, x1⟩ := lc_rest (q := q) (d := d + (2 * r + 2)) (D := D) (x4 := 0) ha b0 h7 hT rfl hno
        exact ⟨f1, lc_head (d := d + (2 * r + 2) + 3) hT rfl _ (fun _ => r1) (fun z => absurd z hno) (fun z => absurd z hno), x1⟩

