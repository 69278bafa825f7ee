/-! ## a text of lines: the reference reads it -/
theorem j_addUnits {q : Int × (Int → Int)} {d : Nat} {f : Int → Int → Int} {t : (Int → Int) × Nat × Nat × Nat × (Int → Int → Bool)} {g u φ : Int → Int} {n p N : Int} (h : XJ f u n φ (-1) p) (hI : gInv N g) (hN : N ≤ 1900000) : ∃ f2, zM (true, q) (d + 5) 82 [(20, 1464, 0)] (zrow f 1465 g, t) = some ((9, 0, 0), (zrow f2 1465 (pAu u n g p).2.2, t)) ∧ zFT f f2 ∧ XJ f2 u n φ (pAu u n g p).1 (pAu u n g p).2.1 := by
  have m0 := hI.1.1
  have m4 := hI.1.2.1
  have hp := XJ_p h
  obtain ⟨v, f1, r1, z1, a, b⟩ := j_fig (q := q) (d := d + 1) (t := t) (g := g) (lo := 0) (hi := g 3 - 1) h
  rw [ze_M_addUnits, zb_M_addUnits_0, zG2 (by decide) (by decide), zb_M_addUnits_6]
  simp (disch := omega) only [Int.reduceAdd, zrow_r, zw_id]
  rw [r1, zK_i, zb_M_addUnits_9]
  simp (disch := omega) only [zrow_ne]
  unfold pAu
  -- a thing that is wrong ends it
  have stop : ∀ (e : Int) (f2 : Int → Int → Int), e ≠ -1 → XJ f2 u n φ e 0 → zD (true, q) (d + 5) zc_M_addUnits (zat zc_M_addUnits 22) [(20, 1464, 0), (0, v, 0), (2, 0, 0), (2, 0, 0), (2, 0, 0), (2, 0, 0)] [] (zrow f2 1465 g, t) = some ((9, 0, 0), (zrow f2 1465 g, t)) := by
    intro e f2 he i
    have h12 := i.2.2.2.2.2.1
    rw [zb_M_addUnits_22]
    simp (disch := omega) only [zrow_ne]
    rw [if_pos (by omega), zb_M_addUnits_28, zb_M_addUnits_32, if_pos rfl, zb_M_addUnits_79]
  by_cases cv : txT u n p = 2 ∧ 0 ≤ txV u n p ∧ txV u n p ≤ g 3 - 1
  · obtain ⟨ev, i1⟩ := a cv
    subst ev
    have hr := txN_rng (u := u) (txT_lt (u := u) (n := n) (p := p) (by omega))
    obtain ⟨f2, r2, z2, i2, o2⟩ := j_has (q := q) (d := d) (t := t) (g := g) (w := 17) (s := 23) i1 (by decide) (by decide)
    rw [if_neg (fun y => y i1.2.2.2.2.2.1), if_pos cv, zb_M_addUnits_14, r2, zK_i, zb_M_addUnits_17]
    by_cases c7 : txT u n (txN u n p) = 17
    · rw [if_pos c7] at i2
      have hIl := hI.1.2.2.2 (txV u n p) cv.2.1 (by omega)
      have q6 := hIl.1.1.2.2.2.2.2.2.1
      rw [if_pos c7, if_pos (by decide), if_pos c7, zb_M_addUnits_22]
      simp (disch := omega) only [zrow_ne]
      rw [if_neg (fun y => y i2.2.2.2.2.2.1), zb_M_addUnits_26]
      have t0 := hI.2.1
      have t1 := hI.2.2
      obtain ⟨f3, r3, z3, i3⟩ := l_units (q := q) (d := d + 1) (t := t) (l := txV u n p) cv.2.1 (by omega) 12 g (txN u n (txN u n p)) 0 f2 (2, 0, 0) (2, 0, 0) i2 q6.1 t0 (by omega) (by decide)
      exact ⟨f3, r3, zFT_trans z1 (zFT_trans z2 z3), i3⟩
    · rw [if_neg c7] at i2
      have e11 := o2 c7
      have i3 : XJ (zup f2 1464 12 (txN u n p)) u n φ (txN u n p) 0 := XJ_er i2 zFT_12 (zup_nk (by decide)) (zupE rfl rfl) (by rw [zup_nk (by decide)]; exact i2.2.2.2.2.1) (by omega)
      rw [if_neg c7, if_neg (fun y => y rfl), if_neg c7, zb_M_addUnits_18]
      simp (disch := omega) only [zrow_ne]
      rw [e11, x_wrong i2.2.2.2.2.2.1, zK_v, stop _ _ (by omega) i3]
      exact ⟨_, rfl, zFT_trans z1 (zFT_trans z2 zFT_12), i3⟩
  · have i1 := b cv
    have i1' : XJ f1 u n φ p 0 := XJ_er i1 zFT_refl rfl i1.2.2.2.2.2.1 i1.2.2.2.2.1 (by omega)
    have h12 := i1.2.2.2.2.2.1
    rw [if_pos (by omega), if_neg cv, stop p f1 (by omega) i1']
    exact ⟨f1, rfl, z1, i1'⟩
theorem j_lineOfText {q : Int × (Int → Int)} {d : Nat} {f : Int → Int → Int} {t : (Int → Int) × Nat × Nat × Nat × (Int → Int → Bool)} {g u φ : Int → Int} {n p N : Int} (h : XJ f u n φ (-1) p) (hI : gInv N g) (hN : N ≤ 1900000) : ∃ f2, zM (true, q) (d + 7) 83 [(20, 1464, 0)] (zrow f 1465 g, t) = some ((9, 0, 0), (zrow f2 1465 (pTl u n g p).2.2, t)) ∧ zFT f f2 ∧ XJ f2 u n φ (pTl u n g p).1 (pTl u n g p).2.1 := by
  have hp := XJ_p h
  obtain ⟨r0, i0⟩ := j_here (q := q) (d := d + 4) (t := t) (g := g) h
  obtain ⟨f1, r1, z1, i1, _⟩ := j_has (q := q) (d := d + 2) (t := t) (g := g) (w := 9) (s := 8) i0 (by decide) (by decide)
  rw [ze_M_lineOfText, zb_M_lineOfText_0, r0, zK_i, zb_M_lineOfText_2, r1, zK_i, zb_M_lineOfText_6]
  unfold pTl
  by_cases c9 : txT u n p = 9
  · rw [if_pos c9] at i1
    obtain ⟨f2, r2, z2, i2⟩ := j_addLine (q := q) (d := d) (t := t) (g := g) (b := p) i1 hp.1 hI.1.1 hI.1.2.1
    rw [if_pos c9, if_neg (by decide), if_pos c9, zb_M_lineOfText_7, r2, zK_v, zb_M_lineOfText_10]
    exact ⟨f2, rfl, zFT_trans zFT_11 (zFT_trans z1 z2), i2⟩
  · rw [if_neg c9] at i1
    obtain ⟨f2, r2, z2, i2, _⟩ := j_has (q := q) (d := d + 2) (t := t) (g := g) (w := 12) (s := 18) i1 (by decide) (by decide)
    rw [if_neg c9, if_pos rfl, if_neg c9, zb_M_lineOfText_11, r2, zK_i, zb_M_lineOfText_14]
    by_cases c12 : txT u n p = 12
    · rw [if_pos c12] at i2
      obtain ⟨f3, r3, z3, i3⟩ := j_addUnits (q := q) (d := d + 1) (t := t) (g := g) i2 hI hN
      rw [if_pos c12, if_neg (by decide), if_pos c12, zb_M_lineOfText_15, r3, zK_v, zb_M_lineOfText_17]
      exact ⟨f3, rfl, zFT_trans zFT_11 (zFT_trans z1 (zFT_trans z2 z3)), i3⟩
    · rw [if_neg c12] at i2
      obtain ⟨f3, r3, z3, i3, o3⟩ := j_has (q := q) (d := d + 2) (t := t) (g := g) (w := 18) (s := 14) i2 (by decide) (by decide)
      rw [if_neg c12, if_pos rfl, if_neg c12, zb_M_lineOfText_18, r3, zK_i, zb_M_lineOfText_21]
      have z03 : zFT f f3 := zFT_trans zFT_11 (zFT_trans z1 (zFT_trans z2 z3))
      by_cases c18 : txT u n p = 18
      · rw [if_pos c18] at i3
        have hr := txN_rng (u := u) (txT_lt (u := u) (n := n) (p := p) (by omega))
        obtain ⟨v, f4, r4, z4, a, b⟩ := j_fig (q := q) (d := d + 3) (t := t) (g := g) (lo := 0) (hi := 999) i3
        rw [if_pos c18, if_neg (by decide), if_pos c18, zb_M_lineOfText_22, r4, zK_i, zb_M_lineOfText_26]
        simp (disch := omega) only [zrow_ne]
        by_cases cv : txT u n (txN u n p) = 2 ∧ 0 ≤ txV u n (txN u n p) ∧ txV u n (txN u n p) ≤ 999
        · obtain ⟨ev, i4⟩ := a cv
          subst ev
          rw [if_neg (fun y => y i4.2.2.2.2.2.1), if_pos cv, zb_M_lineOfText_31, zG2 (by decide) (by decide), zb_M_lineOfText_36]
          simp (disch := omega) only [Int.reduceAdd, zrow_in]
          exact ⟨f4, rfl, zFT_trans z03 z4, i4⟩
        · have i4 := b cv
          have h12 := i4.2.2.2.2.2.1
          rw [if_pos (by omega), if_neg cv, zb_M_lineOfText_36]
          exact ⟨f4, rfl, zFT_trans z03 z4, XJ_er i4 zFT_refl rfl h12 i4.2.2.2.2.1 (by omega)⟩
      · rw [if_neg c18] at i3
        have e11 := o3 c18
        rw [if_neg c18, if_pos rfl, if_neg c18, zb_M_lineOfText_37]
        simp (disch := omega) only [zrow_ne]
        rw [e11, x_wrong i3.2.2.2.2.2.1, zK_v, zb_M_lineOfText_41]
        exact ⟨_, rfl, zFT_trans z03 zFT_12, XJ_er i3 zFT_12 (zup_nk (by decide)) (zupE rfl rfl) (by rw [zup_nk (by decide)]; exact i3.2.2.2.2.1) (by omega)⟩

theorem l_treads {q : Int × (Int → Int)} {d : Nat} {t : (Int → Int) × Nat × Nat × Nat × (Int → Int → Bool)} {u φ : Int → Int} {n : Int} : ∀ (k : Nat) (N : Int) (g : Int → Int) (p c : Int) (f : Int → Int → Int), XJ f u n φ (-1) p → gInv N g → N + 12 * k ≤ 1900000 → 0 ≤ c → c + k = 14 → ∃ c2 f2, zD (true, q) (d + 8) zc_M_reads (zat zc_M_reads 13) [(20, 1464, 0), (0, 0, 0), (0, 1, 0), (0, c, 0)] [] (zrow f 1465 g, t) = some ((0, c2, 0), (zrow f2 1465 (pTs u n k g p).2.2, t)) ∧ zFT f f2 ∧ f2 1464 12 = (pTs u n k g p).1 := by
  intro k
  -- where a fault is known, it ends
  have fin : ∀ (e c : Int) (g : Int → Int) (f : Int → Int → Int), e ≠ -1 → f 1464 12 = e → zD (true, q) (d + 8) zc_M_reads (zat zc_M_reads 43) [(20, 1464, 0), (0, 0, 0), (0, 1, 0), (0, c, 0)] [] (zrow f 1465 g, t) = some ((0, c, 0), (zrow f 1465 g, t)) := by
    intro e c g f he h12
    rw [zb_M_reads_43]
    simp (disch := omega) only [zrow_ne]
    rw [if_pos (by omega), zb_M_reads_52, zb_M_reads_13, if_pos rfl, zb_M_reads_71]
  induction k with
  | zero =>
    intro N g p c f h hI hN c0 hc
    have hp := XJ_p h
    have hJ := XJ_i (g := g) h
    have hs := x_skip (q := q) (d := d + 6) (t := t) hJ.1 hJ.2.2.2.1 hJ.2.2.2.2.1 hJ.2.2.2.2.2.1
    have i1 : XJ (zup (zup f 1464 11 p) 1464 12 p) u n φ p 0 := XJ_er h (zFT_trans zFT_11 zFT_12) (by rw [zup_nk (by decide), zup_nk (by decide)]) (zupE rfl rfl) (by rw [zup_nk (by decide), zupE rfl rfl]; exact hp.1) (by omega)
    obtain ⟨f2, r2, z2, i2⟩ := j_skip9 (q := q) (d := d + 6) (t := t) (g := g) i1 (by omega)
    have h12 := (i2 0).2.2.2.2.2.1
    have hc : c = 14 := by omega
    refine ⟨zw (c + 1), f2, ?_, zFT_trans (zFT_trans zFT_11 zFT_12) z2, h12⟩
    rw [zb_M_reads_13, if_neg (by decide), zb_M_reads_15]
    simp (disch := omega) only [zrow_ne]
    rw [if_neg (fun y => y h.2.2.2.2.2.1), zb_M_reads_19, hs, zK_v, zb_M_reads_21, if_pos rfl, zb_M_reads_26, if_neg (fun y => y hc), zb_M_reads_28]
    simp (disch := omega) only [zrow_ne, zupE]
    rw [x_wrong ((zup_nk (by decide)).trans h.2.2.2.2.2.1), zK_v, zb_M_reads_32, r2, zK_v]
    exact fin p _ g f2 (by omega) h12
  | succ k ih =>
    intro N g p c f h hI hN c0 hc
    have hp := XJ_p h
    have hJ := XJ_i (g := g) h
    have hs := x_skip (q := q) (d := d + 6) (t := t) hJ.1 hJ.2.2.2.1 hJ.2.2.2.2.1 hJ.2.2.2.2.2.1
    have i0 : XJ (zup f 1464 11 p) u n φ (-1) p := by
      refine XJ_of (g := g) h zFT_11 ?_
      have := XI_11 hJ hp.1 hp.2.1
      rw [hp.2.2.2] at this
      exact this
    obtain ⟨f1, r1, z1, i1⟩ := j_lineOfText (q := q) (d := d) (t := t) i0 hI (by omega)
    obtain ⟨v1, v2⟩ := gInv_tl (u := u) (n := n) hI hp.1
    have z01 : zFT f f1 := zFT_trans zFT_11 z1
    rw [zb_M_reads_13, if_neg (by decide), zb_M_reads_15]
    simp (disch := omega) only [zrow_ne]
    rw [if_neg (fun y => y h.2.2.2.2.2.1), zb_M_reads_19, hs, zK_v, zb_M_reads_21, if_pos rfl, zb_M_reads_26, if_pos (by omega), zb_M_reads_33, if_pos rfl, zb_M_reads_38, r1, zK_v, zb_M_reads_40, zw_id (by omega) (by omega)]
    have hun : pTs u n (k + 1) g p = if (pTl u n g p).1 = -1 then (if (pTl u n g p).2.1 = n then (-1, n, (pTl u n g p).2.2) else if txT u n (pTl u n g p).2.1 = 3 then pTs u n k (pTl u n g p).2.2 (txN u n (pTl u n g p).2.1) else ((pTl u n g p).2.1, 0, (pTl u n g p).2.2)) else ((pTl u n g p).1, 0, (pTl u n g p).2.2) := rfl
    rw [hun]
    generalize pTl u n g p = x at i1 v1 v2
    obtain ⟨e, p1, g1⟩ := x
    have i1 : XJ f1 u n φ e p1 := i1
    have v1 : gInv (N + 12) g1 := v1
    show ∃ c2 f2, zK _ _ _ _ _ _ (zM (true, q) (d + 7) 61 [(20, 1464, 0)] (zrow f1 1465 g1, t)) = some ((0, c2, 0), (zrow f2 1465 (if e = -1 then (if p1 = n then (-1, n, g1) else if txT u n p1 = 3 then pTs u n k g1 (txN u n p1) else (p1, 0, g1)) else (e, 0, g1)).2.2, t)) ∧ zFT f f2 ∧ f2 1464 12 = (if e = -1 then (if p1 = n then (-1, n, g1) else if txT u n p1 = 3 then pTs u n k g1 (txN u n p1) else (p1, 0, g1)) else (e, 0, g1)).1
    by_cases ce : e = -1
    · subst ce
      have hp1 := XJ_p i1
      have hJ1 := XJ_i (g := g1) i1
      have hs1 := x_skip (q := q) (d := d + 6) (t := t) hJ1.1 hJ1.2.2.2.1 hJ1.2.2.2.2.1 hJ1.2.2.2.2.2.1
      have i2 : XI (zup f1 1464 11 p1) g1 u n φ 0 p1 := by
        have := XI_11 hJ1 hp1.1 hp1.2.1
        rw [hp1.2.2.2] at this
        exact this
      have h10 := i2.1.2.2.1
      have z02 : zFT f (zup f1 1464 11 p1) := zFT_trans z01 zFT_11
      rw [if_pos rfl, hs1, zK_v, zb_M_reads_43]
      simp (disch := omega) only [zrow_ne]
      rw [if_neg (fun y => y i2.2.2.1), zb_M_reads_47]
      simp (disch := omega) only [zrow_ne, zupE, h10]
      by_cases cn : p1 = n
      · rw [if_neg (fun y => y cn), if_pos cn, zb_M_reads_52, zb_M_reads_13, if_pos rfl, zb_M_reads_71]
        exact ⟨_, _, rfl, z02, i2.2.2.1⟩
      · rw [if_pos cn, if_neg cn, zb_M_reads_55]
        obtain ⟨r5, i5, j5⟩ := x_signI (q := q) (d := d + 5) (t := t) (w := 3) (c := 59) i2 (by decide) (by decide) (by decide)
        rw [zup_zup] at r5 i5
        rw [r5, zK_i, zb_M_reads_58]
        by_cases c3 : txT u n p1 = 3
        · obtain ⟨j6, hpn⟩ := j5 c3
          rw [zup_zup] at j6
          rw [if_pos c3, if_neg (by decide), if_pos c3, zb_M_reads_59]
          simp (disch := omega) only [zrow_ne, zrow_up, zupE, zup_zup]
          rw [zw_id (by omega) (by omega)]
          have i6 : XJ (zup f1 1464 11 (p1 + 1)) u n φ (-1) (txN u n p1) := XJ_of (g := g1) i1 zFT_11 j6
          obtain ⟨c9, f9, r9, z9, a9⟩ := ih (N + 12) g1 (txN u n p1) (c + 1) _ i6 v1 (by omega) (by omega) (by omega)
          exact ⟨c9, f9, r9, zFT_trans z01 (zFT_trans zFT_11 z9), a9⟩
        · rw [if_neg c3, if_pos rfl, if_neg c3, zb_M_reads_66]
          simp (disch := omega) only [zrow_ne, zupE]
          rw [x_wrong i2.2.2.1, zK_v, zb_M_reads_70, zb_M_reads_13, if_neg (by decide), zb_M_reads_15]
          simp (disch := omega) only [zrow_ne, zupE]
          rw [if_pos (by omega), zb_M_reads_71]
          exact ⟨_, _, rfl, zFT_trans z02 zFT_12, zupE rfl rfl⟩
    · obtain ⟨f2, r2, z2, i2⟩ := j_skip9 (q := q) (d := d + 6) (t := t) (g := g1) i1 ce
      have h12 := (i2 0).2.2.2.2.2.1
      rw [if_neg ce, r2, zK_v, fin e _ g1 f2 ce h12]
      exact ⟨_, f2, rfl, zFT_trans z01 z2, h12⟩
theorem j_treads {q : Int × (Int → Int)} {d : Nat} {f : Int → Int → Int} {t : (Int → Int) × Nat × Nat × Nat × (Int → Int → Bool)} {g u φ : Int → Int} {n N : Int} (h : XJ f u n φ (-1) (txS u n 0)) (h0 : f 1464 11 = 0) (hI : gInv N g) (hN : N + 168 ≤ 1900000) : ∃ c2 f2, zM (true, q) (d + 8) 84 [(20, 1464, 0), (0, 0, 0)] (zrow f 1465 g, t) = some ((0, c2, 0), (zrow f2 1465 (pTx u n g).2.2, t)) ∧ zFT f f2 ∧ f2 1464 12 = (pTx u n g).1 := by
  have hp := XJ_p h
  have hJ := XJ_i (g := g) h
  have hs := x_skip (q := q) (d := d + 6) (t := t) hJ.1 hJ.2.2.2.1 hJ.2.2.2.2.1 hJ.2.2.2.2.2.1
  have i1 : XI (zup f 1464 11 (txS u n 0)) g u n φ 0 (txS u n 0) := by
    have := XI_11 hJ hp.1 hp.2.1
    rw [hp.2.2.2] at this
    exact this
  have h10 := i1.1.2.2.1
  rw [ze_M_reads, zb_M_reads_0, hs, zK_v, zb_M_reads_2]
  simp (disch := omega) only [zrow_ne, zupE, h10]
  unfold pTx
  by_cases c : txS u n 0 < n
  · rw [if_neg (by omega), if_pos c, zb_M_reads_7]
    obtain ⟨c9, f9, r9, z9, a9⟩ := l_treads (q := q) (d := d) (t := t) 14 N g (txS u n 0) 0 _ (XJ_of (g := g) h zFT_11 i1) hI (by omega) (by decide) (by decide)
    exact ⟨c9, f9, r9, zFT_trans zFT_11 z9, a9⟩
  · rw [if_pos (by omega), if_neg c, zb_M_reads_9, zb_M_reads_13, if_pos rfl, zb_M_reads_71]
    exact ⟨0, _, rfl, zFT_11, i1.2.2.1⟩

