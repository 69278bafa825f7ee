/-! ## the class reads what is no NOT and no bracket -/
theorem lc_cmpF {q : Int × (Int → Int)} {d : Nat} {t : (Int → Int) × Nat × Nat × Nat × (Int → Int → Bool)} {F f : Int → Int → Int} {a T n D W x4 x5 b e p : Int} {u : Int → Int} (ha : a + 7 ≤ T) (b0 : 0 ≤ b) (he : e ≠ -1) (hE : zCE F f a T b) (hT : zTC f t.1 T u n p e) : ∃ f2, zD (true, q) (d + 4) zc_Law_readAtom (zat zc_Law_readAtom 79) [(12, a, 0), (15, T, 0), (0, D, 0), (5, W, 0), (0, x4, 0), (0, x5, 0)] [] (f, t) = some ((9, 0, 0), (f2, t)) ∧ zCE F f2 a T b ∧ ∃ p2, zTC f2 t.1 T u n p2 e := by
  have hm := hE.2.2
  obtain ⟨f1, r1, E1, p1, T1⟩ := c_sumF (q := q) (d := d + 1) ha (by omega) hm.2 he hT
  have E2 := zCE_trans hE E1
  obtain ⟨f3, r3, E3, T3, _, _⟩ := c_emitE (q := q) (d := d + 2) (v := if x5 = 0 then -105 else -104) ha b0 E2 T1
  refine ⟨f3, ?_, E3, p1, T3⟩
  rw [zb_Law_readAtom_79, r1, zK_v, zb_Law_readAtom_82]
  by_cases c : x5 = 0
  · rw [if_pos c] at r3 ⊢
    rw [zb_Law_readAtom_87, r3, zK_v, zb_Law_readAtom_89]
  · rw [if_neg c] at r3 ⊢
    rw [zb_Law_readAtom_85, r3, zK_v, zb_Law_readAtom_89]
theorem lc_cmp2 {q : Int × (Int → Int)} {d : Nat} {t : (Int → Int) × Nat × Nat × Nat × (Int → Int → Bool)} {F f : Int → Int → Int} {a T n D W x4 x5 b p p0 : Int} {u : Int → Int} {c : List Int} (ha : a + 7 ≤ T) (b0 : 0 ≤ b) (hE : zCE F f a T b) (hT : zTC f t.1 T u n p (-1)) (hs : zSeg (f (a + 5)) c b (f a 7)) (h7 : f a 7 ≤ p0) (hp0 : p0 < p) : ∃ f2, zD (true, q) (d + 4) zc_Law_readAtom (zat zc_Law_readAtom 79) [(12, a, 0), (15, T, 0), (0, D, 0), (5, W, 0), (0, x4, 0), (0, x5, 0)] [] (f, t) = some ((9, 0, 0), (f2, t)) ∧ CX F f2 t.1 a T u n b (if (pSum u n p).1 = true then (true, (pSum u n p).2.1, c ++ (pSum u n p).2.2 ++ [if x5 = 0 then -105 else -104]) else (false, (pSum u n p).2.1, [])) := by
  have hm := hE.2.2
  obtain ⟨f1, r1, x1⟩ := c_sum (q := q) (d := d + 1) ha (by omega) hT (by omega)
  have E2 := zCE_trans hE x1.1
  have run : ∀ f3, zM (true, q) (d + 3) 88 [(12, a, 0), (0, if x5 = 0 then -105 else -104, 0)] (f1, t) = some ((9, 0, 0), (f3, t)) → zD (true, q) (d + 4) zc_Law_readAtom (zat zc_Law_readAtom 79) [(12, a, 0), (15, T, 0), (0, D, 0), (5, W, 0), (0, x4, 0), (0, x5, 0)] [] (f, t) = some ((9, 0, 0), (f3, t)) := by
    intro f3 r3
    rw [zb_Law_readAtom_79, r1, zK_v, zb_Law_readAtom_82]
    by_cases c : x5 = 0
    · rw [if_pos c] at r3 ⊢
      rw [zb_Law_readAtom_87, r3, zK_v, zb_Law_readAtom_89]
    · rw [if_neg c] at r3 ⊢
      rw [zb_Law_readAtom_85, r3, zK_v, zb_Law_readAtom_89]
  by_cases hx : (pSum u n p).1 = true
  · rw [if_pos hx]
    have hg := pSum_go _ hx
    have hl := CX_len x1 hx (pSum_q _)
    have hp := zTC_p hT
    obtain ⟨T1, s1⟩ := x1.2.1 hx
    obtain ⟨f3, r3, E3, T3, m3, k3⟩ := c_emitE (q := q) (d := d + 2) (v := if x5 = 0 then -105 else -104) ha b0 E2 T1
    obtain ⟨k4, k5⟩ := k3 (by omega)
    exact ⟨f3, run f3 r3, E3, fun _ => ⟨T3, k5 _ (zSeg_app _ _ _ _ _ (zSeg_ce x1.1 hs) s1)⟩, fun z => absurd rfl z⟩
  · rw [if_neg hx]
    obtain ⟨h1, p1, T1⟩ := x1.2.2 hx
    obtain ⟨f3, r3, E3, T3, m3, k3⟩ := c_emitE (q := q) (d := d + 2) (v := if x5 = 0 then -105 else -104) ha b0 E2 T1
    exact ⟨f3, run f3 r3, E3, fun z => absurd z Bool.false_ne_true, fun _ => ⟨h1, p1, T3⟩⟩
theorem c_cmp {q : Int × (Int → Int)} {d : Nat} {t : (Int → Int) × Nat × Nat × Nat × (Int → Int → Bool)} {f : Int → Int → Int} {a T n D W x4 p : Int} {u : Int → Int} (ha : a + 7 ≤ T) (b0 : 0 ≤ f a 7) (h7 : f a 7 ≤ p) (hT : zTC f t.1 T u n p (-1)) : ∃ f2, zD (true, q) (d + 4) zc_Law_readAtom (zat zc_Law_readAtom 67) [(12, a, 0), (15, T, 0), (0, D, 0), (5, W, 0), (0, x4, 0), (2, 0, 0)] [] (f, t) = some ((9, 0, 0), (f2, t)) ∧ CX f f2 t.1 a T u n (f a 7) (pCmp u n p) := by
  have hp := zTC_p hT
  have e0 : pCmp u n p = if (pSum u n p).1 = true then (if txT u n (pSum u n p).2.1 = 6 ∨ txT u n (pSum u n p).2.1 = 7 then (if (pSum u n (txN u n (pSum u n p).2.1)).1 = true then (true, (pSum u n (txN u n (pSum u n p).2.1)).2.1, (pSum u n p).2.2 ++ (pSum u n (txN u n (pSum u n p).2.1)).2.2 ++ [if txT u n (pSum u n p).2.1 = 6 then -104 else -105]) else (false, (pSum u n (txN u n (pSum u n p).2.1)).2.1, [])) else pNo (pSum u n p).2.1) else (false, (pSum u n p).2.1, []) := rfl
  obtain ⟨f1, r1, x1⟩ := c_sum (q := q) (d := d + 1) ha b0 hT h7
  rw [e0]
  by_cases hx : (pSum u n p).1 = true
  · rw [if_pos hx]
    have hg := pSum_go _ hx
    have hl := CX_len x1 hx (pSum_q _)
    obtain ⟨T1, s1⟩ := x1.2.1 hx
    generalize (pSum u n p).2.1 = p1 at *
    obtain ⟨f2, r2, T2, fr2⟩ := c_passes (q := q) (d := d + 2) (σ := (f1, t)) (W := 6) T1 (by decide)
    obtain ⟨E2, s7, s5⟩ := zCE_fp ha x1.1 fr2
    have r2 : zM (true, q) (d + 3) 47 [(15, T, 0), (5, 6, 0)] (f1, t) = some ((0, if (-1 : Int) = -1 ∧ txT u n p1 = 6 then 1 else 0, 0), (f2, t)) := r2
    by_cases c6 : txT u n p1 = 6
    · rw [if_pos ⟨rfl, c6⟩] at r2 T2
      have hN := txN_rng (u := u) (txT_lt (u := u) (n := n) (p := p1) (by omega))
      rw [if_pos (Or.inl c6), if_pos c6]
      obtain ⟨f3, r3, x3⟩ := lc_cmp2 (q := q) (d := d) (D := D) (W := W) (x4 := x4) (x5 := 1) (p0 := p1) ha b0 E2 T2 (by rw [s5, s7]; exact s1) (by omega) (by omega)
      rw [if_neg (show ¬(1 : Int) = 0 by decide)] at x3
      exact ⟨f3, by rw [zb_Law_readAtom_67, r1, zK_v, zb_Law_readAtom_70, r2, zK_i, zb_Law_readAtom_73, if_pos (by decide)]; exact r3, x3⟩
    · rw [if_neg (fun z => c6 z.2)] at r2 T2
      obtain ⟨f3, r3, T3, fr3⟩ := c_needs (q := q) (d := d + 1) (σ := (f2, t)) (W := 7) T2 (by decide)
      obtain ⟨E3, s73, s53⟩ := zCE_fp ha E2 fr3
      have r3 : zM (true, q) (d + 3) 49 [(15, T, 0), (5, 7, 0)] (f2, t) = some ((9, 0, 0), (f3, t)) := r3
      have run : ∀ y, zD (true, q) (d + 4) zc_Law_readAtom (zat zc_Law_readAtom 79) [(12, a, 0), (15, T, 0), (0, D, 0), (5, W, 0), (0, x4, 0), (0, 0, 0)] [] (f3, t) = y → zD (true, q) (d + 4) zc_Law_readAtom (zat zc_Law_readAtom 67) [(12, a, 0), (15, T, 0), (0, D, 0), (5, W, 0), (0, x4, 0), (2, 0, 0)] [] (f, t) = y := by
        intro y hy
        rw [zb_Law_readAtom_67, r1, zK_v, zb_Law_readAtom_70, r2, zK_i, zb_Law_readAtom_73, if_neg (by decide), zb_Law_readAtom_76, r3, zK_v]
        exact hy
      by_cases c7 : txT u n p1 = 7
      · rw [if_pos ⟨rfl, c7⟩, if_neg (fun z => z.2 c7)] at T3
        have hN := txN_rng (u := u) (txT_lt (u := u) (n := n) (p := p1) (by omega))
        rw [if_pos (Or.inr c7), if_neg c6]
        obtain ⟨f4, r4, x4⟩ := lc_cmp2 (q := q) (d := d) (D := D) (W := W) (x4 := x4) (x5 := 0) (p0 := p1) ha b0 E3 T3 (by rw [s53, s73, s5, s7]; exact s1) (by omega) (by omega)
        rw [if_pos (show (0 : Int) = 0 from rfl)] at x4
        exact ⟨f4, run _ r4, x4⟩
      · rw [if_neg (fun z => c7 z.2), if_pos ⟨rfl, c7⟩] at T3
        rw [if_neg (by omega)]
        obtain ⟨f4, r4, E4, T4⟩ := lc_cmpF (q := q) (d := d) (D := D) (W := W) (x4 := x4) (x5 := 0) ha b0 (show p1 ≠ -1 by omega) E3 T3
        exact ⟨f4, run _ r4, E4, fun z => absurd z Bool.false_ne_true, fun _ => ⟨show p1 ≠ -1 by omega, T4⟩⟩
  · rw [if_neg hx]
    obtain ⟨h1, p1, T1⟩ := x1.2.2 hx
    obtain ⟨f2, r2, T2, fr2⟩ := c_passes (q := q) (d := d + 2) (σ := (f1, t)) (W := 6) T1 (by decide)
    obtain ⟨E2, s7, s5⟩ := zCE_fp ha x1.1 fr2
    rw [if_neg (fun z => h1 z.1)] at r2 T2
    have r2 : zM (true, q) (d + 3) 47 [(15, T, 0), (5, 6, 0)] (f1, t) = some ((0, 0, 0), (f2, t)) := r2
    obtain ⟨f3, r3, T3, fr3⟩ := c_needs (q := q) (d := d + 1) (σ := (f2, t)) (W := 7) T2 (by decide)
    obtain ⟨E3, s73, s53⟩ := zCE_fp ha E2 fr3
    rw [if_neg (fun z => h1 z.1), if_neg (fun z => h1 z.1)] at T3
    have r3 : zM (true, q) (d + 3) 49 [(15, T, 0), (5, 7, 0)] (f2, t) = some ((9, 0, 0), (f3, t)) := r3
    obtain ⟨f4, r4, E4, T4⟩ := lc_cmpF (q := q) (d := d) (D := D) (W := W) (x4 := x4) (x5 := 0) ha b0 h1 E3 T3
    exact ⟨f4, by rw [zb_Law_readAtom_67, r1, zK_v, zb_Law_readAtom_70, r2, zK_i, zb_Law_readAtom_73, if_neg (by decide), zb_Law_readAtom_76, r3, zK_v]; exact r4, E4, fun z => absurd z Bool.false_ne_true, fun _ => ⟨h1, T4⟩⟩
theorem c_plain {q : Int × (Int → Int)} {d : Nat} {t : (Int → Int) × Nat × Nat × Nat × (Int → Int → Bool)} {f : Int → Int → Int} {a T n D W x4 p : Int} {u : Int → Int} (ha : a + 7 ≤ T) (b0 : 0 ≤ f a 7) (h7 : f a 7 ≤ p) (hT : zTC f t.1 T u n p (-1)) (hW : txT u n p = W) : ∃ f2, zD (true, q) (d + 4) zc_Law_readAtom (zat zc_Law_readAtom 52) [(12, a, 0), (15, T, 0), (0, D, 0), (5, W, 0), (0, x4, 0), (2, 0, 0)] [] (f, t) = some ((9, 0, 0), (f2, t)) ∧ CX f f2 t.1 a T u n (f a 7) (pPlain u n p) := by
  have hp := zTC_p hT
  have hw := txT_rng (u := u) (n := n) (p := p)
  rw [hW] at hw
  rw [zb_Law_readAtom_52, zG2 hw.1 hw.2, zb_Law_readAtom_54]
  unfold pPlain
  rw [hW]
  by_cases c : 7 ≤ zWfc W
  · rw [if_neg (by omega), if_pos c, zb_Law_readAtom_56, zG2 hw.1 hw.2, zb_Law_readAtom_60]
    have hW0 : W ≠ 0 := fun z => by
      rw [z] at c
      exact absurd c (by decide)
    have hl := txT_lt (u := u) (n := n) (p := p) (by omega)
    have h10 : zWfc W < 10 := by
      have := txF0 W.toNat (by omega)
      rw [show ((W.toNat : Nat) : Int) = W by omega] at this
      exact this
    obtain ⟨f1, r1, E1, T1, m1, k1⟩ := c_emitE (q := q) (d := d + 2) (v := -1 - zWfc W) ha b0 (zCE_refl (by omega)) hT
    obtain ⟨k2, k3⟩ := k1 (by omega)
    obtain ⟨f2, r2, T2, fr2⟩ := c_passes (q := q) (d := d + 2) (σ := (f1, t)) (W := W) T1 hW0
    obtain ⟨E2, s7, s5⟩ := zCE_fp ha E1 fr2
    rw [if_pos ⟨rfl, hW⟩] at r2 T2
    have r2 : zM (true, q) (d + 3) 47 [(15, T, 0), (5, W, 0)] (f1, t) = some ((0, 1, 0), (f2, t)) := r2
    refine ⟨f2, by rw [zw_id (by omega) (by omega), r1, zK_v, zb_Law_readAtom_62, r2, zK_i, zb_Law_readAtom_65], E2, fun _ => ⟨T2, ?_⟩, fun z => absurd rfl z⟩
    rw [s5, s7]
    exact k3 [] ⟨rfl, b0, by omega⟩
  · rw [if_pos (by omega), if_neg c]
    exact c_cmp ha b0 h7 hT

