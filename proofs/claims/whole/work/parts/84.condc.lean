/-! ## the class reads a condition -/
def CAt (q : Int × (Int → Int)) (t : (Int → Int) × Nat × Nat × Nat × (Int → Int → Bool)) (a T : Int) (u : Int → Int) (n : Int) (A : Int → Bool × Int × List Int) (D : Int) (E : Nat) : Prop := ∀ (d : Nat) (f : Int → Int → Int) (p : Int), zTC f t.1 T u n p (-1) → 0 ≤ f a 7 → f a 7 ≤ p → ∃ f2, zM (true, q) (d + E) 90 [(12, a, 0), (15, T, 0), (0, D, 0)] (f, t) = some ((9, 0, 0), (f2, t)) ∧ CX f f2 t.1 a T u n (f a 7) (A p)
/-- what was read is longer by that -/
theorem CX_len {F f2 : Int → Int → Int} {w : Int → Int} {a T n b p M : Int} {u : Int → Int} {x : Bool × Int × List Int} (h : CX F f2 w a T u n b x) (hx : x.1 = true) (hq : pQ M p x) : f2 a 7 ≤ b + (x.2.1 - p) := by
  have h1 := zSeg_rng _ _ _ (h.2.1 hx).2
  have h2 := (hq hx).1
  omega
theorem lc_ev {q : Int × (Int → Int)} {d e : Nat} {t : (Int → Int) × Nat × Nat × Nat × (Int → Int → Bool)} {a T n D M : Int} {u : Int → Int} {A : Int → Bool × Int × List Int} (ha : a + 7 ≤ T) (hA : CAt q t a T u n A D (e + 4)) (hgo : pGoA n A) (hq : ∀ p, pQ M p (A p)) {j : Int} : ∀ (k : Nat) (p i : Int) (c : List Int) (F f : Int → Int → Int) (b : Int), 0 ≤ b → zCE F f a T b → zTC f t.1 T u n p (-1) → zSeg (f (a + 5)) c b (f a 7) → f a 7 ≤ p → n ≤ p + k → 0 ≤ i → 2 * i < p → ∃ f2 i2, zD (true, q) (d + (e + 4) + 1) zc_Law_readCondition (zat zc_Law_readCondition 15) [(12, a, 0), (15, T, 0), (0, D, 0), (0, 1, 0), (0, j, 0), (0, i, 0)] [] (f, t) = zD (true, q) (d + (e + 4) + 1) zc_Law_readCondition (zat zc_Law_readCondition 31) [(12, a, 0), (15, T, 0), (0, D, 0), (0, 1, 0), (0, j, 0), (0, i2, 0)] [] (f2, t) ∧ CX F f2 t.1 a T u n b (pEvL u n A k p c) := by
  have last : ∀ (p i : Int) (c : List Int) (F f : Int → Int → Int) (b : Int), zCE F f a T b → zTC f t.1 T u n p (-1) → zSeg (f (a + 5)) c b (f a 7) → 0 ≤ i → 2 * i < p → txT u n p ≠ 24 → ∃ f2 i2, zD (true, q) (d + (e + 4) + 1) zc_Law_readCondition (zat zc_Law_readCondition 15) [(12, a, 0), (15, T, 0), (0, D, 0), (0, 1, 0), (0, j, 0), (0, i, 0)] [] (f, t) = zD (true, q) (d + (e + 4) + 1) zc_Law_readCondition (zat zc_Law_readCondition 31) [(12, a, 0), (15, T, 0), (0, D, 0), (0, 1, 0), (0, j, 0), (0, i2, 0)] [] (f2, t) ∧ CX F f2 t.1 a T u n b (true, p, c) := by
    intro p i c F f b hE hT hs i0 i2 h8
    have hp := zTC_p hT
    obtain ⟨f2, r2, T2, fr2⟩ := c_passes (q := q) (d := d + e + 3) (σ := (f, t)) (W := 24) hT (by decide)
    rw [if_neg (fun z => h8 z.2)] at r2 T2
    obtain ⟨E2, s7, s5⟩ := zCE_fp ha hE fr2
    refine ⟨f2, i, ?_, E2, fun _ => ⟨T2, by rw [s5, s7]; exact hs⟩, fun z => absurd rfl z⟩
    have r2 : zM (true, q) (d + (e + 4)) 47 [(15, T, 0), (5, 24, 0)] (f, t) = some ((0, 0, 0), (f2, t)) := r2
    rw [zb_Law_readCondition_15, if_neg (by omega), zb_Law_readCondition_18, r2, zK_i, zb_Law_readCondition_21, if_pos rfl]
  intro k
  induction k with
  | zero =>
    intro p i c F f b b0 hE hT hs h7 hk i0 i2
    refine last p i c F f b hE hT hs i0 i2 (fun z => ?_)
    have := txT_lt (u := u) (n := n) (p := p) (by omega)
    omega
  | succ k ih =>
    intro p i c F f b b0 hE hT hs h7 hk i0 i2
    have hp := zTC_p hT
    have hm := hE.2.2
    have e0 : pEvL u n A (k + 1) p c = if txT u n p = 24 then (if (A (txN u n p)).1 = true then pEvL u n A k (A (txN u n p)).2.1 (c ++ (A (txN u n p)).2.2 ++ [-102]) else (false, (A (txN u n p)).2.1, [])) else (true, p, c) := rfl
    rw [e0]
    by_cases h8 : txT u n p = 24
    · rw [if_pos h8]
      have hl := txT_lt (u := u) (n := n) (p := p) (by omega)
      have hN := txN_rng (u := u) hl
      obtain ⟨f1, r1, T1, fr1⟩ := c_passes (q := q) (d := d + e + 3) (σ := (f, t)) (W := 24) hT (by decide)
      rw [if_pos ⟨rfl, h8⟩] at r1 T1
      have r1 : zM (true, q) (d + (e + 4)) 47 [(15, T, 0), (5, 24, 0)] (f, t) = some ((0, 1, 0), (f1, t)) := r1
      obtain ⟨E1, s7, s5⟩ := zCE_fp ha hE fr1
      obtain ⟨f2, r2, x2⟩ := hA d f1 _ T1 (by omega) (by omega)
      have E2 := zCE_trans E1 x2.1
      have run : zD (true, q) (d + (e + 4) + 1) zc_Law_readCondition (zat zc_Law_readCondition 15) [(12, a, 0), (15, T, 0), (0, D, 0), (0, 1, 0), (0, j, 0), (0, i, 0)] [] (f, t) = zD (true, q) (d + (e + 4) + 1) zc_Law_readCondition (zat zc_Law_readCondition 26) [(12, a, 0), (15, T, 0), (0, D, 0), (0, 1, 0), (0, j, 0), (0, i, 0)] [] (f2, t) := by
        rw [zb_Law_readCondition_15, if_neg (by omega), zb_Law_readCondition_18, r1, zK_i, zb_Law_readCondition_21, if_neg (by decide), zb_Law_readCondition_22, r2, zK_v]
      rw [run]
      by_cases hx : (A (txN u n p)).1 = true
      · rw [if_pos hx]
        have hg := hgo _ hx
        obtain ⟨T2, s2⟩ := x2.2.1 hx
        have hl2 := CX_len x2 hx (hq _)
        have pre : zSeg (f2 (a + 5)) c b (f1 a 7) := zSeg_ce x2.1 (by rw [s5, s7]; exact hs)
        obtain ⟨f3, r3, E3, T3, m3, k3⟩ := c_emitE (q := q) (d := d + e + 3) (v := -102) ha b0 E2 T2
        have r3 : zM (true, q) (d + (e + 4)) 88 [(12, a, 0), (0, -102, 0)] (f2, t) = some ((9, 0, 0), (f3, t)) := r3
        obtain ⟨k4, k5⟩ := k3 (by omega)
        obtain ⟨f4, i4, r4, x4⟩ := ih _ (i + 1) _ F f3 b b0 E3 T3 (k5 _ (zSeg_app _ _ _ _ _ pre s2)) (by omega) (by omega) (by omega) (by omega)
        exact ⟨f4, i4, by rw [zb_Law_readCondition_26, r3, zK_v, zb_Law_readCondition_29, zw_id (by omega) (by omega)]; exact r4, x4⟩
      · rw [if_neg hx]
        obtain ⟨h1, p2, T2⟩ := x2.2.2 hx
        obtain ⟨f3, r3, E3, T3, m3, k3⟩ := c_emitE (q := q) (d := d + e + 3) (v := -102) ha b0 E2 T2
        have r3 : zM (true, q) (d + (e + 4)) 88 [(12, a, 0), (0, -102, 0)] (f2, t) = some ((9, 0, 0), (f3, t)) := r3
        obtain ⟨f4, r4, T4, fr4⟩ := c_passes (q := q) (d := d + e + 3) (σ := (f3, t)) (W := 24) T3 (by decide)
        rw [if_neg (fun z => h1 z.1)] at r4 T4
        have r4 : zM (true, q) (d + (e + 4)) 47 [(15, T, 0), (5, 24, 0)] (f3, t) = some ((0, 0, 0), (f4, t)) := r4
        refine ⟨f4, i + 1, ?_, (zCE_fp ha E3 fr4).1, fun z => absurd z Bool.false_ne_true, fun _ => ⟨h1, p2, T4⟩⟩
        rw [zb_Law_readCondition_26, r3, zK_v, zb_Law_readCondition_29, zw_id (by omega) (by omega), zb_Law_readCondition_15, if_neg (by omega), zb_Law_readCondition_18, r4, zK_i, zb_Law_readCondition_21, if_pos rfl]
    · rw [if_neg h8]
      exact last p i c F f b hE hT hs i0 i2 h8
theorem c_ev {q : Int × (Int → Int)} {d e : Nat} {t : (Int → Int) × Nat × Nat × Nat × (Int → Int → Bool)} {a T n D M : Int} {u : Int → Int} {A : Int → Bool × Int × List Int} (ha : a + 7 ≤ T) (hA : CAt q t a T u n A D (e + 4)) (hgo : pGoA n A) (hq : ∀ p, pQ M p (A p)) {j p : Int} {f : Int → Int → Int} {v0 : zV} (hT : zTC f t.1 T u n p (-1)) (b0 : 0 ≤ f a 7) (h7 : f a 7 ≤ p) : ∃ f2 i2, zD (true, q) (d + (e + 4) + 1) zc_Law_readCondition (zat zc_Law_readCondition 9) [(12, a, 0), (15, T, 0), (0, D, 0), (0, 1, 0), (0, j, 0), v0] [] (f, t) = zD (true, q) (d + (e + 4) + 1) zc_Law_readCondition (zat zc_Law_readCondition 31) [(12, a, 0), (15, T, 0), (0, D, 0), (0, 1, 0), (0, j, 0), (0, i2, 0)] [] (f2, t) ∧ CX f f2 t.1 a T u n (f a 7) (pEv u n A p) := by
  have hp := zTC_p hT
  obtain ⟨f2, r2, x2⟩ := hA d f _ hT b0 h7
  have e0 : pEv u n A p = if (A p).1 = true then pEvL u n A (n - (A p).2.1).toNat (A p).2.1 (A p).2.2 else (false, (A p).2.1, []) := rfl
  rw [e0]
  have run : zD (true, q) (d + (e + 4) + 1) zc_Law_readCondition (zat zc_Law_readCondition 9) [(12, a, 0), (15, T, 0), (0, D, 0), (0, 1, 0), (0, j, 0), v0] [] (f, t) = zD (true, q) (d + (e + 4) + 1) zc_Law_readCondition (zat zc_Law_readCondition 15) [(12, a, 0), (15, T, 0), (0, D, 0), (0, 1, 0), (0, j, 0), (0, 0, 0)] [] (f2, t) := by
    rw [zb_Law_readCondition_9, r2, zK_v, zb_Law_readCondition_13]
  rw [run]
  by_cases hx : (A p).1 = true
  · rw [if_pos hx]
    have hg := hgo _ hx
    obtain ⟨T2, s2⟩ := x2.2.1 hx
    have hl2 := CX_len x2 hx (hq _)
    exact lc_ev (d := d) ha hA hgo hq _ _ 0 _ f f2 (f a 7) b0 x2.1 T2 s2 (by omega) (by omega) (Int.le_refl 0) (by omega)
  · rw [if_neg hx]
    obtain ⟨h1, p2, T2⟩ := x2.2.2 hx
    obtain ⟨f4, r4, T4, fr4⟩ := c_passes (q := q) (d := d + e + 3) (σ := (f2, t)) (W := 24) T2 (by decide)
    rw [if_neg (fun z => h1 z.1)] at r4 T4
    have r4 : zM (true, q) (d + (e + 4)) 47 [(15, T, 0), (5, 24, 0)] (f2, t) = some ((0, 0, 0), (f4, t)) := r4
    refine ⟨f4, 0, ?_, (zCE_fp ha x2.1 fr4).1, fun z => absurd z Bool.false_ne_true, fun _ => ⟨h1, p2, T4⟩⟩
    rw [zb_Law_readCondition_15, if_neg (by decide), zb_Law_readCondition_18, r4, zK_i, zb_Law_readCondition_21, if_pos rfl]
/-- what has failed ends -/
theorem lc_condF {q : Int × (Int → Int)} {d e : Nat} {t : (Int → Int) × Nat × Nat × Nat × (Int → Int → Bool)} {F f : Int → Int → Int} {a T b n p x j D : Int} {u : Int → Int} {v : Int} (ha : a + 7 ≤ T) (b0 : 0 ≤ b) (j0 : 0 ≤ j) (j4 : j < 400) (he : x ≠ -1) (hE : zCE F f a T b) (hT : zTC f t.1 T u n p x) : ∃ f2, zD (true, q) (d + (e + 4) + 1) zc_Law_readCondition (zat zc_Law_readCondition 31) [(12, a, 0), (15, T, 0), (0, D, 0), (0, 1, 0), (0, j, 0), (0, v, 0)] [] (f, t) = some ((9, 0, 0), (f2, t)) ∧ zCE F f2 a T b ∧ zTC f2 t.1 T u n p x := by
  have fin : ∀ f1 : Int → Int → Int, zCE F f1 a T b → zTC f1 t.1 T u n p x → ∃ f2, zD (true, q) (d + (e + 4) + 1) zc_Law_readCondition (zat zc_Law_readCondition 36) [(12, a, 0), (15, T, 0), (0, D, 0), (0, 1, 0), (0, j, 0), (0, v, 0)] [] (f1, t) = some ((9, 0, 0), (f2, t)) ∧ zCE F f2 a T b ∧ zTC f2 t.1 T u n p x := by
    intro f1 E1 T1
    obtain ⟨f2, r2, T2, fr2⟩ := c_passes (q := q) (d := d + e + 3) (σ := (f1, t)) (W := 23) T1 (by decide)
    rw [if_neg (fun z => he z.1)] at r2 T2
    have r2 : zM (true, q) (d + (e + 4)) 47 [(15, T, 0), (5, 23, 0)] (f1, t) = some ((0, 0, 0), (f2, t)) := r2
    refine ⟨f2, ?_, (zCE_fp ha E1 fr2).1, T2⟩
    rw [zb_Law_readCondition_36, r2, zK_i, zb_Law_readCondition_39, zw_id (by omega) (by omega), zb_Law_readCondition_4]
    by_cases c : 400 ≤ j + 1
    · rw [if_pos c, zb_Law_readCondition_42]
    · rw [if_neg c, zb_Law_readCondition_7, if_pos rfl, zb_Law_readCondition_42]
  rw [zb_Law_readCondition_31]
  by_cases c : j ≤ 0
  · rw [if_pos c]
    exact fin f hE hT
  · rw [if_neg c]
    obtain ⟨f1, r1, E1, T1, _⟩ := c_emitE (q := q) (d := d + e + 3) (v := -103) ha b0 hE hT
    have r1 : zM (true, q) (d + (e + 4)) 88 [(12, a, 0), (0, -103, 0)] (f, t) = some ((9, 0, 0), (f1, t)) := r1
    rw [zb_Law_readCondition_33, r1, zK_v]
    exact fin f1 E1 T1
theorem lc_so {q : Int × (Int → Int)} {d e : Nat} {t : (Int → Int) × Nat × Nat × Nat × (Int → Int → Bool)} {a T n D M : Int} {u : Int → Int} {A : Int → Bool × Int × List Int} (ha : a + 7 ≤ T) (hA : CAt q t a T u n A D (e + 4)) (hgo : pGoA n A) (hq : ∀ p, pQ M p (A p)) : ∀ (k : Nat) (p j : Int) (c : List Int) (F f : Int → Int → Int) (b v : Int), 0 ≤ b → zCE F f a T b → zTC f t.1 T u n p (-1) → zSeg (f (a + 5)) c b (f a 7) → f a 7 ≤ p → n ≤ p + k → 0 ≤ j → 2 * j < p → ∃ f2, zD (true, q) (d + (e + 4) + 1) zc_Law_readCondition (zat zc_Law_readCondition 36) [(12, a, 0), (15, T, 0), (0, D, 0), (0, 1, 0), (0, j, 0), (0, v, 0)] [] (f, t) = some ((9, 0, 0), (f2, t)) ∧ CX F f2 t.1 a T u n b (pSoL u n A k p c) := by
  have last : ∀ (p j : Int) (c : List Int) (F f : Int → Int → Int) (b v : Int), zCE F f a T b → zTC f t.1 T u n p (-1) → zSeg (f (a + 5)) c b (f a 7) → 0 ≤ j → 2 * j < p → txT u n p ≠ 23 → ∃ f2, zD (true, q) (d + (e + 4) + 1) zc_Law_readCondition (zat zc_Law_readCondition 36) [(12, a, 0), (15, T, 0), (0, D, 0), (0, 1, 0), (0, j, 0), (0, v, 0)] [] (f, t) = some ((9, 0, 0), (f2, t)) ∧ CX F f2 t.1 a T u n b (true, p, c) := by
    intro p j c F f b v hE hT hs j0 j2 h8
    have hp := zTC_p hT
    obtain ⟨f2, r2, T2, fr2⟩ := c_passes (q := q) (d := d + e + 3) (σ := (f, t)) (W := 23) hT (by decide)
    rw [if_neg (fun z => h8 z.2)] at r2 T2
    have r2 : zM (true, q) (d + (e + 4)) 47 [(15, T, 0), (5, 23, 0)] (f, t) = some ((0, 0, 0), (f2, t)) := r2
    obtain ⟨E2, s7, s5⟩ := zCE_fp ha hE fr2
    refine ⟨f2, ?_, E2, fun _ => ⟨T2, by rw [s5, s7]; exact hs⟩, fun z => absurd rfl z⟩
    rw [zb_Law_readCondition_36, r2, zK_i, zb_Law_readCondition_39, zw_id (by omega) (by omega), zb_Law_readCondition_4, if_neg (by omega), zb_Law_readCondition_7, if_pos rfl, zb_Law_readCondition_42]
  intro k
  induction k with
  | zero =>
    intro p j c F f b v b0 hE hT hs h7 hk j0 j2
    refine last p j c F f b v hE hT hs j0 j2 (fun z => ?_)
    have := txT_lt (u := u) (n := n) (p := p) (by omega)
    omega
  | succ k ih =>
    intro p j c F f b v b0 hE hT hs h7 hk j0 j2
    have hp := zTC_p hT
    have hm := hE.2.2
    have e0 : pSoL u n A (k + 1) p c = if txT u n p = 23 then (if (pEv u n A (txN u n p)).1 = true then pSoL u n A k (pEv u n A (txN u n p)).2.1 (c ++ (pEv u n A (txN u n p)).2.2 ++ [-103]) else (false, (pEv u n A (txN u n p)).2.1, [])) else (true, p, c) := rfl
    rw [e0]
    by_cases h8 : txT u n p = 23
    · rw [if_pos h8]
      have hl := txT_lt (u := u) (n := n) (p := p) (by omega)
      have hN := txN_rng (u := u) hl
      obtain ⟨f1, r1, T1, fr1⟩ := c_passes (q := q) (d := d + e + 3) (σ := (f, t)) (W := 23) hT (by decide)
      rw [if_pos ⟨rfl, h8⟩] at r1 T1
      have r1 : zM (true, q) (d + (e + 4)) 47 [(15, T, 0), (5, 23, 0)] (f, t) = some ((0, 1, 0), (f1, t)) := r1
      obtain ⟨E1, s7, s5⟩ := zCE_fp ha hE fr1
      obtain ⟨f2, i2, r2, x2⟩ := c_ev (q := q) (d := d) (j := j + 1) (v0 := (0, v, 0)) ha hA hgo hq T1 (by omega) (by omega)
      have E2 := zCE_trans E1 x2.1
      have run : zD (true, q) (d + (e + 4) + 1) zc_Law_readCondition (zat zc_Law_readCondition 36) [(12, a, 0), (15, T, 0), (0, D, 0), (0, 1, 0), (0, j, 0), (0, v, 0)] [] (f, t) = zD (true, q) (d + (e + 4) + 1) zc_Law_readCondition (zat zc_Law_readCondition 31) [(12, a, 0), (15, T, 0), (0, D, 0), (0, 1, 0), (0, j + 1, 0), (0, i2, 0)] [] (f2, t) := by
        rw [zb_Law_readCondition_36, r1, zK_i, zb_Law_readCondition_39, zw_id (by omega) (by omega), zb_Law_readCondition_4, if_neg (by omega), zb_Law_readCondition_7, if_neg (by decide)]
        exact r2
      rw [run]
      by_cases hx : (pEv u n A (txN u n p)).1 = true
      · rw [if_pos hx]
        have hg := pEv_go hgo _ hx
        obtain ⟨T2, s2⟩ := x2.2.1 hx
        have hl2 := CX_len x2 hx (pEv_q hgo hq _)
        have pre : zSeg (f2 (a + 5)) c b (f1 a 7) := zSeg_ce x2.1 (by rw [s5, s7]; exact hs)
        obtain ⟨f3, r3, E3, T3, m3, k3⟩ := c_emitE (q := q) (d := d + e + 3) (v := -103) ha b0 E2 T2
        have r3 : zM (true, q) (d + (e + 4)) 88 [(12, a, 0), (0, -103, 0)] (f2, t) = some ((9, 0, 0), (f3, t)) := r3
        obtain ⟨k4, k5⟩ := k3 (by omega)
        obtain ⟨f4, r4, x4⟩ := ih _ (j + 1) _ F f3 b i2 b0 E3 T3 (k5 _ (zSeg_app _ _ _ _ _ pre s2)) (by omega) (by omega) (by omega) (by omega)
        exact ⟨f4, by rw [zb_Law_readCondition_31, if_neg (by omega), zb_Law_readCondition_33, r3, zK_v]; exact r4, x4⟩
      · rw [if_neg hx]
        obtain ⟨h1, p2, T2⟩ := x2.2.2 hx
        obtain ⟨f3, r3, E3, T3⟩ := lc_condF (q := q) (d := d) (e := e) (j := j + 1) (D := D) (v := i2) ha b0 (by omega) (by omega) h1 E2 T2
        exact ⟨f3, r3, E3, fun z => absurd z Bool.false_ne_true, fun _ => ⟨h1, p2, T3⟩⟩
    · rw [if_neg h8]
      exact last p j c F f b v hE hT hs j0 j2 h8
theorem c_cond {q : Int × (Int → Int)} {d e : Nat} {t : (Int → Int) × Nat × Nat × Nat × (Int → Int → Bool)} {a T n D M : Int} {u : Int → Int} {A : Int → Bool × Int × List Int} (ha : a + 7 ≤ T) (hA : CAt q t a T u n A D (e + 4)) (hgo : pGoA n A) (hq : ∀ p, pQ M p (A p)) {p : Int} {f : Int → Int → Int} (hT : zTC f t.1 T u n p (-1)) (b0 : 0 ≤ f a 7) (h7 : f a 7 ≤ p) : ∃ f2, zM (true, q) (d + (e + 4) + 1) 91 [(12, a, 0), (15, T, 0), (0, D, 0)] (f, t) = some ((9, 0, 0), (f2, t)) ∧ CX f f2 t.1 a T u n (f a 7) (pSo u n A p) := by
  have hp := zTC_p hT
  obtain ⟨f2, i2, r2, x2⟩ := c_ev (q := q) (d := d) (j := 0) (v0 := (2, 0, 0)) ha hA hgo hq hT b0 h7
  have e0 : pSo u n A p = if (pEv u n A p).1 = true then pSoL u n A (n - (pEv u n A p).2.1).toNat (pEv u n A p).2.1 (pEv u n A p).2.2 else (false, (pEv u n A p).2.1, []) := rfl
  rw [e0, ze_Law_readCondition, zb_Law_readCondition_0, zb_Law_readCondition_4, if_neg (by decide), zb_Law_readCondition_7, if_neg (by decide), r2]
  by_cases hx : (pEv u n A p).1 = true
  · rw [if_pos hx]
    have hg := pEv_go hgo _ hx
    obtain ⟨T2, s2⟩ := x2.2.1 hx
    have hl2 := CX_len x2 hx (pEv_q hgo hq _)
    rw [zb_Law_readCondition_31, if_pos (Int.le_refl 0)]
    exact lc_so (d := d) ha hA hgo hq _ _ 0 _ f f2 (f a 7) i2 b0 x2.1 T2 s2 (by omega) (by omega) (Int.le_refl 0) (by omega)
  · rw [if_neg hx]
    obtain ⟨h1, p2, T2⟩ := x2.2.2 hx
    obtain ⟨f3, r3, E3, T3⟩ := lc_condF (q := q) (d := d) (e := e) (j := 0) (D := D) (v := i2) ha b0 (Int.le_refl 0) (by decide) h1 x2.1 T2
    exact ⟨f3, r3, E3, fun z => absurd z Bool.false_ne_true, fun _ => ⟨h1, p2, T3⟩⟩
