/-! ## a text of lines: the reference -/
def pMb (u : Int → Int) (n w lo hi e p : Int) : Int × Int := if e = -1 ∧ txT u n p = w then (if txT u n (txN u n p) = 2 ∧ lo ≤ txV u n (txN u n p) ∧ txV u n (txN u n p) ≤ hi then (-1, txN u n (txN u n p)) else (txN u n p, txN u n p)) else (e, p)
def pMv (u : Int → Int) (n w df e p : Int) : Int := if e = -1 ∧ txT u n p = w then txV u n (txN u n p) else df
def pL1 (u : Int → Int) (n e p : Int) : Int × Int := pMb u n 10 0 100 e p
def pL2 (u : Int → Int) (n e p : Int) : Int × Int := pMb u n 11 1 4 (pL1 u n e p).1 (pL1 u n e p).2
def pL3 (u : Int → Int) (n e p : Int) : Int × Int := pMb u n 12 1 8 (pL2 u n e p).1 (pL2 u n e p).2
def pL4 (u : Int → Int) (n e p : Int) : Int × Int := pMb u n 13 9 60 (pL3 u n e p).1 (pL3 u n e p).2
def pL5 (u : Int → Int) (n e p : Int) : Int × Int := pMb u n 14 1 20 (pL4 u n e p).1 (pL4 u n e p).2
def pSt (u : Int → Int) (n p : Int) : Int × Int := if txT u n p = 15 then (2, txN u n p) else if txT u n p = 16 then (1, txN u n p) else (0, p)
def gNl (g : Int → Int) (B s no de un oc li : Int) : Int → Int := rEmp (zup1 (zup1 (zup1 (zup1 (zup1 (zup1 (mfil g B 265 0) (B + 0) s) (B + 1) no) (B + 2) de) (B + 3) un) (B + 4) oc) (B + 5) li) B
def pNw (u : Int → Int) (n : Int) (g : Int → Int) (e p : Int) : Int → Int := zup1 (gNl g (10 + 265 * g 3) (pSt u n (pL5 u n e p).2).1 (pMv u n 10 0 e p) (pMv u n 11 2 (pL1 u n e p).1 (pL1 u n e p).2) (pMv u n 12 4 (pL2 u n e p).1 (pL2 u n e p).2) (pMv u n 13 30 (pL3 u n e p).1 (pL3 u n e p).2) (pMv u n 14 4 (pL4 u n e p).1 (pL4 u n e p).2)) 3 (g 3 + 1)
def pAl (u : Int → Int) (n : Int) (g : Int → Int) (b p : Int) : Int × Int × (Int → Int) := if (pL5 u n (if g 3 = 4 then b else -1) p).1 = -1 then (-1, (pSt u n (pL5 u n (if g 3 = 4 then b else -1) p).2).2, pNw u n g (if g 3 = 4 then b else -1) p) else ((pL5 u n (if g 3 = 4 then b else -1) p).1, 0, g)
def XJ (f : Int → Int → Int) (u : Int → Int) (n : Int) (φ : Int → Int) (e p : Int) : Prop := f 1464 9 = -1 ∧ RT f u u n ∧ XF f φ ∧ f 1464 13 = 0 ∧ 0 ≤ f 1464 11 ∧ f 1464 12 = e ∧ (e = -1 → f 1464 11 ≤ n ∧ txS u n (f 1464 11) = p)
theorem RT_g {f : Int → Int → Int} {g h u : Int → Int} {n : Int} (h9 : f 1464 9 = -1) (h1 : RT f g u n) : RT f h u n := by
  obtain ⟨a, b, c, e⟩ := h1
  rcases e with e | e
  · exact ⟨a, b, c, Or.inl e⟩
  · exact absurd (h9.symm.trans e.1) (by decide)
theorem XJ_i {f : Int → Int → Int} {g u φ : Int → Int} {n p : Int} (h : XJ f u n φ (-1) p) : XI f g u n φ 0 p := by
  obtain ⟨a, b, c, e, i, j, k⟩ := h
  obtain ⟨k1, k2⟩ := k rfl
  exact ⟨RT_g a b, c, j, i, k1, k2, e⟩
theorem XJ_of {f f2 : Int → Int → Int} {g u φ : Int → Int} {n e p p2 : Int} (h : XJ f u n φ e p) (z : zFT f f2) (i : XI f2 g u n φ 0 p2) : XJ f2 u n φ (-1) p2 := by
  have h9 : f2 1464 9 = -1 := (z _ _ (by omega)).trans h.1
  exact ⟨h9, RT_g h9 i.1, i.2.1, i.2.2.2.2.2.2, i.2.2.2.1, i.2.2.1, fun _ => ⟨i.2.2.2.2.1, i.2.2.2.2.2.1⟩⟩
theorem XJ_er {f f2 : Int → Int → Int} {u φ : Int → Int} {n e p e2 p2 : Int} (h : XJ f u n φ e p) (z : zFT f f2) (h13 : f2 1464 13 = f 1464 13) (h12 : f2 1464 12 = e2) (h11 : 0 ≤ f2 1464 11) (he : e2 ≠ -1) : XJ f2 u n φ e2 p2 :=
  ⟨(z _ _ (by omega)).trans h.1, RT_ft z h.2.1, XF_ft z h.2.2.1, h13.trans h.2.2.2.1, h11, h12, fun c => absurd c he⟩
theorem XJ_p {f : Int → Int → Int} {u φ : Int → Int} {n p : Int} (h : XJ f u n φ (-1) p) : 0 ≤ p ∧ p ≤ n ∧ n ≤ 400 ∧ txS u n p = p := XI_p (XJ_i (g := u) h)
theorem j_has {q : Int × (Int → Int)} {d : Nat} {f : Int → Int → Int} {t : (Int → Int) × Nat × Nat × Nat × (Int → Int → Bool)} {g u φ : Int → Int} {n p : Int} {w s : Int} (h : XJ f u n φ (-1) p) (hw : 9 ≤ w ∧ w < 33) (hs : s = zWtx w) : ∃ f2, zM (true, q) (d + 4) 63 [(20, 1464, 0), (6, s, 0)] (zrow f 1465 g, t) = some ((0, if txT u n p = w then 1 else 0, 0), (zrow f2 1465 g, t)) ∧ zFT f f2 ∧ XJ f2 u n φ (-1) (if txT u n p = w then txN u n p else p) ∧ (txT u n p ≠ w → f2 1464 11 = p) := by
  obtain ⟨f2, r, z, _, i, o⟩ := x_hasP (q := q) (d := d) (t := t) (XJ_i (g := g) h) hw hs
  exact ⟨f2, r, z, XJ_of h z i, o⟩
theorem j_fig {q : Int × (Int → Int)} {d : Nat} {f : Int → Int → Int} {t : (Int → Int) × Nat × Nat × Nat × (Int → Int → Bool)} {g u φ : Int → Int} {n p lo hi : Int} (h : XJ f u n φ (-1) p) : ∃ v f2, zM (true, q) (d + 3) 65 [(20, 1464, 0), (0, lo, 0), (0, hi, 0)] (zrow f 1465 g, t) = some ((0, v, 0), (zrow f2 1465 g, t)) ∧ zFT f f2 ∧ (txT u n p = 2 ∧ lo ≤ txV u n p ∧ txV u n p ≤ hi → v = txV u n p ∧ XJ f2 u n φ (-1) (txN u n p)) ∧ (¬(txT u n p = 2 ∧ lo ≤ txV u n p ∧ txV u n p ≤ hi) → XJ f2 u n φ p p) := by
  obtain ⟨v, f2, r, z, x, a, b⟩ := x_figI (q := q) (d := d) (t := t) (lo := lo) (hi := hi) (XJ_i (g := g) h)
  have hp := XJ_p h
  exact ⟨v, f2, r, z, fun c => ⟨(a c).1, XJ_of h z (a c).2⟩, fun c => XJ_er h z x (b c).1 (b c).2.1 (by omega)⟩
theorem j_fig9 {q : Int × (Int → Int)} {d : Nat} {f : Int → Int → Int} {t : (Int → Int) × Nat × Nat × Nat × (Int → Int → Bool)} {g : Int → Int} {lo hi : Int} (h : f 1464 12 ≠ -1) : zM (true, q) d 65 [(20, 1464, 0), (0, lo, 0), (0, hi, 0)] (zrow f 1465 g, t) = some ((0, 0, 0), (zrow f 1465 g, t)) := by
  rw [ze_M_figures, zb_M_figures_0]
  simp (disch := omega) only [zrow_ne]
  rw [if_neg h, zb_M_figures_4]
theorem j_maybe {q : Int × (Int → Int)} {d : Nat} {f : Int → Int → Int} {t : (Int → Int) × Nat × Nat × Nat × (Int → Int → Bool)} {g u φ : Int → Int} {n p e w s lo hi df : Int} (h : XJ f u n φ e p) (hw : 9 ≤ w ∧ w < 33) (hs : s = zWtx w) : ∃ v f2, zM (true, q) (d + 5) 74 [(20, 1464, 0), (6, s, 0), (0, lo, 0), (0, hi, 0), (0, df, 0)] (zrow f 1465 g, t) = some ((0, v, 0), (zrow f2 1465 g, t)) ∧ zFT f f2 ∧ XJ f2 u n φ (pMb u n w lo hi e p).1 (pMb u n w lo hi e p).2 ∧ ((pMb u n w lo hi e p).1 = -1 → v = pMv u n w df e p) := by
  have h12 := h.2.2.2.2.2.1
  unfold pMb pMv
  rw [ze_M_maybe, zb_M_maybe_0]
  simp (disch := omega) only [zrow_ne]
  by_cases c : e = -1
  · subst c
    obtain ⟨f1, r1, z1, i1, _⟩ := j_has (q := q) (d := d) (t := t) (g := g) h hw hs
    rw [if_neg (fun y => y h12), zb_M_maybe_4, r1, zK_i, zb_M_maybe_7]
    by_cases c1 : txT u n p = w
    · rw [if_pos c1] at i1
      obtain ⟨v, f2, r2, z2, a, b⟩ := j_fig (q := q) (d := d + 1) (t := t) (g := g) (lo := lo) (hi := hi) i1
      rw [if_pos c1, if_neg (by decide), zb_M_maybe_8, r2, zK_i, zb_M_maybe_12, if_pos ⟨rfl, c1⟩]
      refine ⟨v, f2, rfl, zFT_trans z1 z2, ?_⟩
      by_cases c2 : txT u n (txN u n p) = 2 ∧ lo ≤ txV u n (txN u n p) ∧ txV u n (txN u n p) ≤ hi
      · rw [if_pos c2, if_pos ⟨rfl, c1⟩]
        exact ⟨(a c2).2, fun _ => (a c2).1⟩
      · rw [if_neg c2, if_pos ⟨rfl, c1⟩]
        refine ⟨b c2, fun y => ?_⟩
        have := XJ_p i1
        have y : txN u n p = -1 := y
        omega
    · rw [if_neg c1] at i1
      rw [if_neg c1, if_pos rfl, if_neg (fun y => c1 y.2), if_neg (fun y => c1 y.2), zb_M_maybe_13]
      exact ⟨df, f1, rfl, z1, i1, fun _ => rfl⟩
  · rw [if_pos (by omega), zb_M_maybe_13, if_neg (fun y => c y.1), if_neg (fun y => c y.1)]
    exact ⟨df, f, rfl, zFT_refl, h, fun _ => rfl⟩
/-- a line's row begins with nothing -/
theorem l_zer {q : Int × (Int → Int)} {d : Nat} {f : Int → Int → Int} {t : (Int → Int) × Nat × Nat × Nat × (Int → Int → Bool)} {g : Int → Int} {l x1 x2 x3 x4 x5 x6 x7 : Int} (hl : 0 ≤ l) (hl4 : l < 4) : ∀ (k : Nat) (i : Int), 0 ≤ i → i + k = 265 → zD (true, q) (d + 1) zc_M_addLine (zat zc_M_addLine 76) [(20, 1464, 0), (0, x1, 0), (0, x2, 0), (0, x3, 0), (0, x4, 0), (0, x5, 0), (0, x6, 0), (0, x7, 0), (0, l, 0), (0, i, 0)] [] (zrow f 1465 (mfil g (10 + 265 * l) i 0), t) = zD (true, q) (d + 1) zc_M_addLine (zat zc_M_addLine 86) [(20, 1464, 0), (0, x1, 0), (0, x2, 0), (0, x3, 0), (0, x4, 0), (0, x5, 0), (0, x6, 0), (0, x7, 0), (0, l, 0), (0, 265, 0)] [] (zrow f 1465 (mfil g (10 + 265 * l) 265 0), t) := by
  intro k
  induction k with
  | zero =>
    intro i i0 hi
    have : i = 265 := by omega
    subst this
    rw [zb_M_addLine_76, if_pos (by decide)]
  | succ k ih =>
    intro i i0 hi
    rw [zb_M_addLine_76, if_neg (by omega), zb_M_addLine_79, r_lays hl hl4 (by omega) (by omega), zK_v, zb_M_addLine_84, zw_id (by omega) (by omega), mfil_s i0 rfl]
    exact ih (i + 1) (by omega) (by omega)
theorem j_addLine {q : Int × (Int → Int)} {d : Nat} {f : Int → Int → Int} {t : (Int → Int) × Nat × Nat × Nat × (Int → Int → Bool)} {g u φ : Int → Int} {n p b : Int} (h : XJ f u n φ (-1) p) (b0 : 0 ≤ b) (m0 : 0 ≤ g 3) (m4 : g 3 ≤ 4) : ∃ f2, zM (true, q) (d + 6) 77 [(20, 1464, 0), (0, b, 0)] (zrow f 1465 g, t) = some ((9, 0, 0), (zrow f2 1465 (pAl u n g b p).2.2, t)) ∧ zFT f f2 ∧ XJ f2 u n φ (pAl u n g b p).1 (pAl u n g b p).2.1 := by
  have start : ∃ f1, zM (true, q) (d + 6) 77 [(20, 1464, 0), (0, b, 0)] (zrow f 1465 g, t) = zD (true, q) (d + 6) zc_M_addLine (zat zc_M_addLine 9) [(20, 1464, 0), (0, b, 0), (2, 0, 0), (2, 0, 0), (2, 0, 0), (2, 0, 0), (2, 0, 0), (2, 0, 0), (2, 0, 0), (2, 0, 0)] [] (zrow f1 1465 g, t) ∧ zFT f f1 ∧ XJ f1 u n φ (if g 3 = 4 then b else -1) p := by
    rw [ze_M_addLine, zb_M_addLine_0, zG2 (by decide) (by decide), zb_M_addLine_4]
    simp (disch := omega) only [Int.reduceAdd, zrow_r]
    by_cases c : g 3 = 4
    · rw [if_neg (fun y => y c), if_pos c, zb_M_addLine_6, x_wrong h.2.2.2.2.2.1, zK_v]
      exact ⟨_, rfl, zFT_12, XJ_er h zFT_12 (zup_nk (by decide)) (zupE rfl rfl) (by rw [zup_nk (by decide)]; exact h.2.2.2.2.1) (by omega)⟩
    · rw [if_pos c, if_neg c]
      exact ⟨f, rfl, zFT_refl, h⟩
  obtain ⟨f1, r1, z1, i1⟩ := start
  rw [r1]
  unfold pAl pNw
  generalize he : (if g 3 = 4 then b else -1) = e at i1
  obtain ⟨v1, f2, r2, z2, i2, e2⟩ := j_maybe (q := q) (d := d) (t := t) (g := g) (w := 10) (s := 17) (lo := 0) (hi := 100) (df := 0) i1 (by decide) (by decide)
  obtain ⟨v2, f3, r3, z3, i3, e3⟩ := j_maybe (q := q) (d := d) (t := t) (g := g) (w := 11) (s := 13) (lo := 1) (hi := 4) (df := 2) i2 (by decide) (by decide)
  obtain ⟨v3, f4, r4, z4, i4, e4⟩ := j_maybe (q := q) (d := d) (t := t) (g := g) (w := 12) (s := 18) (lo := 1) (hi := 8) (df := 4) i3 (by decide) (by decide)
  obtain ⟨v4, f5, r5, z5, i5, e5⟩ := j_maybe (q := q) (d := d) (t := t) (g := g) (w := 13) (s := 19) (lo := 9) (hi := 60) (df := 30) i4 (by decide) (by decide)
  obtain ⟨v5, f6, r6, z6, i6, e6⟩ := j_maybe (q := q) (d := d) (t := t) (g := g) (w := 14) (s := 20) (lo := 1) (hi := 20) (df := 4) i5 (by decide) (by decide)
  rw [zb_M_addLine_9, r2, zK_i, zb_M_addLine_15, r3, zK_i, zb_M_addLine_22, r4, zK_i, zb_M_addLine_29, r5, zK_i, zb_M_addLine_36, r6, zK_i, zb_M_addLine_43]
  simp (disch := omega) only [zrow_ne]
  have back : ∀ {w lo hi a c : Int}, (pMb u n w lo hi a c).1 = -1 → a = -1 := fun {w lo hi a c} y => by
    unfold pMb at y
    split at y
    · rename_i z
      exact z.1
    · exact y
  have i6' : XJ f6 u n φ (pL5 u n e p).1 (pL5 u n e p).2 := i6
  have z16 : zFT f f6 := zFT_trans z1 (zFT_trans z2 (zFT_trans z3 (zFT_trans z4 (zFT_trans z5 z6))))
  have h12 := i6'.2.2.2.2.2.1
  by_cases c : (pL5 u n e p).1 = -1
  · have c4 : (pL4 u n e p).1 = -1 := back c
    have c3 : (pL3 u n e p).1 = -1 := back c4
    have c2 : (pL2 u n e p).1 = -1 := back c3
    have c1 : (pL1 u n e p).1 = -1 := back c2
    have v1e := e2 c1
    have v2e := e3 c2
    have v3e := e4 c3
    have v4e := e5 c4
    have v5e := e6 c
    have c0 : e = -1 := back c1
    have g4 : g 3 < 4 := by
      by_cases y : g 3 = 4
      · rw [if_pos y] at he
        omega
      · omega
    rw [c] at i6' h12
    rw [if_pos c, if_pos h12, zb_M_addLine_50]
    -- what is laid
    have lay : ∀ (st : Int) (f7 : Int → Int → Int), g 3 < 4 → zD (true, q) (d + 6) zc_M_addLine (zat zc_M_addLine 69) [(20, 1464, 0), (0, b, 0), (0, v1, 0), (0, v2, 0), (0, v3, 0), (0, v4, 0), (0, v5, 0), (0, st, 0), (2, 0, 0), (2, 0, 0)] [] (zrow f7 1465 g, t) = some ((9, 0, 0), (zrow f7 1465 (zup1 (gNl g (10 + 265 * g 3) st v1 v2 v3 v4 v5) 3 (g 3 + 1)), t)) := by
      intro st f7 g4
      rw [zb_M_addLine_69, zG2 (by decide) (by decide), zb_M_addLine_73]
      simp (disch := omega) only [Int.reduceAdd, zrow_r]
      have hz := l_zer (q := q) (d := d + 5) (f := f7) (t := t) (g := g) (l := g 3) (x1 := b) (x2 := v1) (x3 := v2) (x4 := v3) (x5 := v4) (x6 := v5) (x7 := st) m0 g4 265 0 (by decide) (by decide)
      rw [mfil_0 (by decide)] at hz
      rw [hz, zb_M_addLine_86, r_lays m0 g4 (by decide) (by decide), zK_v, zb_M_addLine_91, r_lays m0 g4 (by decide) (by decide), zK_v, zb_M_addLine_96, r_lays m0 g4 (by decide) (by decide), zK_v, zb_M_addLine_101, r_lays m0 g4 (by decide) (by decide), zK_v, zb_M_addLine_106, r_lays m0 g4 (by decide) (by decide), zK_v, zb_M_addLine_111, r_lays m0 g4 (by decide) (by decide), zK_v, zb_M_addLine_116, r_empties m0 g4, zK_v]
      show zD (true, q) (d + 6) zc_M_addLine (zat zc_M_addLine 119) _ _ (zrow f7 1465 (gNl g (10 + 265 * g 3) st v1 v2 v3 v4 v5), t) = _
      have e3 : gNl g (10 + 265 * g 3) st v1 v2 v3 v4 v5 3 = g 3 := by
        unfold gNl rEmp
        rw [mfil_out (by omega), mfil_out (by omega)]
        simp (disch := omega) only [zup1_ne]
        exact mfil_out (by omega)
      rw [zb_M_addLine_119, zG2 (by decide) (by decide), zb_M_addLine_124, zG2 (by decide) (by decide), zb_M_addLine_127]
      simp (disch := omega) only [Int.reduceAdd, zrow_r, zrow_in, e3, zw_id]
    obtain ⟨f7, r7, z7, i7, o7⟩ := j_has (q := q) (d := d + 1) (t := t) (g := g) (w := 15) (s := 21) i6' (by decide) (by decide)
    have hv : ∀ st, gNl g (10 + 265 * g 3) st v1 v2 v3 v4 v5 = gNl g (10 + 265 * g 3) st (pMv u n 10 0 e p) (pMv u n 11 2 (pL1 u n e p).1 (pL1 u n e p).2) (pMv u n 12 4 (pL2 u n e p).1 (pL2 u n e p).2) (pMv u n 13 30 (pL3 u n e p).1 (pL3 u n e p).2) (pMv u n 14 4 (pL4 u n e p).1 (pL4 u n e p).2) := fun st => by
      rw [v1e, v2e, v3e, v4e, v5e]
      rfl
    have z17 : zFT f f7 := zFT_trans z16 z7
    have n7 := i7.2.2.2.2.2.1
    rw [r7, zK_i, zb_M_addLine_53]
    unfold pSt
    by_cases c7 : txT u n (pL5 u n e p).2 = 15
    · rw [if_pos c7] at i7
      rw [if_pos c7, if_neg (by decide), zb_M_addLine_54]
      simp (disch := omega) only [zrow_ne]
      rw [if_pos n7, lay 2 f7 g4, hv, if_pos c7]
      exact ⟨f7, rfl, z17, i7⟩
    · rw [if_neg c7] at i7
      obtain ⟨f8, r8, z8, i8, o8⟩ := j_has (q := q) (d := d + 1) (t := t) (g := g) (w := 16) (s := 22) i7 (by decide) (by decide)
      have n8 := i8.2.2.2.2.2.1
      rw [if_neg c7, if_pos rfl, zb_M_addLine_56, r8, zK_i, zb_M_addLine_59, if_neg c7]
      by_cases c8 : txT u n (pL5 u n e p).2 = 16
      · rw [if_pos c8] at i8
        rw [if_pos c8, if_neg (by decide), zb_M_addLine_60]
        simp (disch := omega) only [zrow_ne]
        rw [if_pos n8, lay 1 f8 g4, hv, if_pos c8]
        exact ⟨f8, rfl, zFT_trans z17 z8, i8⟩
      · rw [if_neg c8] at i8
        rw [if_neg c8, if_pos rfl, zb_M_addLine_62]
        simp (disch := omega) only [zrow_ne]
        rw [if_pos n8, lay 0 f8 g4, hv, if_neg c8]
        exact ⟨f8, rfl, zFT_trans z17 z8, i8⟩
  · rw [if_neg c, if_neg (by omega), zb_M_addLine_48]
    simp (disch := omega) only [zrow_ne]
    rw [if_neg (by omega), zb_M_addLine_68]
    exact ⟨f6, rfl, z16, XJ_er h z16 (i6'.2.2.2.1.trans h.2.2.2.1.symm) h12 i6'.2.2.2.2.1 c⟩

/-- is there a figure -/
theorem j_isFig {q : Int × (Int → Int)} {d : Nat} {f : Int → Int → Int} {t : (Int → Int) × Nat × Nat × Nat × (Int → Int → Bool)} {g u φ : Int → Int} {n p : Int} (h : XJ f u n φ (-1) p) : zM (true, q) (d + 2) 81 [(20, 1464, 0)] (zrow f 1465 g, t) = some ((0, if p < n ∧ txK (u p) = 2 then 1 else 0, 0), (zrow (zup f 1464 11 p) 1465 g, t)) ∧ XJ (zup f 1464 11 p) u n φ (-1) p := by
  have hp := XJ_p h
  have hI := XJ_i (g := g) h
  have hs := x_skip (q := q) (d := d) (t := t) hI.1 hI.2.2.2.1 hI.2.2.2.2.1 hI.2.2.2.2.2.1
  have i1 : XI (zup f 1464 11 p) g u n φ 0 p := by
    have := XI_11 hI hp.1 hp.2.1
    rw [hp.2.2.2] at this
    exact this
  have h10 := i1.1.2.2.1
  refine ⟨?_, XJ_of h zFT_11 i1⟩
  rw [ze_M_isFigure, zb_M_isFigure_0, hs, zK_v, zb_M_isFigure_2]
  simp (disch := omega) only [zrow_ne]
  rw [if_neg (fun y => y i1.2.2.1), zb_M_isFigure_6]
  simp (disch := omega) only [zrow_ne, zupE, h10]
  by_cases c : p < n
  · rw [if_neg (by omega), zb_M_isFigure_11]
    simp (disch := omega) only [zrow_ne, zupE]
    rw [x_letter i1.1 hp.1 c, zK_i, zb_M_isFigure_15]
    by_cases c2 : 48 ≤ u p ∧ u p ≤ 57
    · rw [r_isInT c2.1 c2.2, zK_i, zb_M_isFigure_18, if_neg (by decide), zb_M_isFigure_19, zG2 (by decide) (by decide), if_pos ⟨c, by unfold txK; rw [if_neg (by omega), if_pos c2]⟩]
    · rw [r_isInF (by omega), zK_i, zb_M_isFigure_18, if_pos rfl, zb_M_isFigure_21, zG2 (by decide) (by decide), if_neg (fun y => by
        have := y.2
        unfold txK at this
        rw [if_neg c2] at this
        split at this <;> omega)]
  · rw [if_pos (by omega), zb_M_isFigure_21, zG2 (by decide) (by decide), if_neg (fun y => c y.1)]
theorem j_skip9 {q : Int × (Int → Int)} {d : Nat} {f : Int → Int → Int} {t : (Int → Int) × Nat × Nat × Nat × (Int → Int → Bool)} {g u φ : Int → Int} {n e p : Int} (h : XJ f u n φ e p) (he : e ≠ -1) : ∃ f2, zM (true, q) (d + 1) 61 [(20, 1464, 0)] (zrow f 1465 g, t) = some ((9, 0, 0), (zrow f2 1465 g, t)) ∧ zFT f f2 ∧ ∀ p2, XJ f2 u n φ e p2 := by
  have hR := RT_g (h := g) h.1 h.2.1
  have h12 := h.2.2.2.2.2.1
  by_cases c : f 1464 11 ≤ n
  · refine ⟨_, x_skip hR h.2.2.2.2.1 c rfl, zFT_11, fun p2 => XJ_er h zFT_11 (zup_nk (by decide)) ((zup_nk (by decide)).trans h12) ?_ he⟩
    rw [zupE rfl rfl]
    have := txS_rng (u := u) c
    have := h.2.2.2.2.1
    omega
  · refine ⟨f, ?_, zFT_refl, fun p2 => XJ_er h zFT_refl rfl h12 h.2.2.2.2.1 he⟩
    have h10 := hR.2.2.1
    rw [ze_M_skip, zb_M_skip_0]
    simp (disch := omega) only [zrow_ne, h10]
    rw [if_pos (by omega), zb_M_skip_18]
theorem j_isFig9 {q : Int × (Int → Int)} {d : Nat} {f : Int → Int → Int} {t : (Int → Int) × Nat × Nat × Nat × (Int → Int → Bool)} {g u φ : Int → Int} {n e p : Int} (h : XJ f u n φ e p) (he : e ≠ -1) : ∃ f2, zM (true, q) (d + 2) 81 [(20, 1464, 0)] (zrow f 1465 g, t) = some ((0, 0, 0), (zrow f2 1465 g, t)) ∧ zFT f f2 ∧ ∀ p2, XJ f2 u n φ e p2 := by
  obtain ⟨f2, r2, z2, i2⟩ := j_skip9 (q := q) (d := d) (t := t) (g := g) h he
  have h12 := (i2 p).2.2.2.2.2.1
  refine ⟨f2, ?_, z2, i2⟩
  rw [ze_M_isFigure, zb_M_isFigure_0, r2, zK_v, zb_M_isFigure_2]
  simp (disch := omega) only [zrow_ne]
  rw [if_pos (by omega), zb_M_isFigure_21, zG2 (by decide) (by decide)]
theorem j_here {q : Int × (Int → Int)} {d : Nat} {f : Int → Int → Int} {t : (Int → Int) × Nat × Nat × Nat × (Int → Int → Bool)} {g u φ : Int → Int} {n p : Int} (h : XJ f u n φ (-1) p) : zM (true, q) (d + 2) 64 [(20, 1464, 0)] (zrow f 1465 g, t) = some ((0, p, 0), (zrow (zup f 1464 11 p) 1465 g, t)) ∧ XJ (zup f 1464 11 p) u n φ (-1) p := by
  have hp := XJ_p h
  have hI := XJ_i (g := g) h
  refine ⟨x_here hI.1 hI.2.2.2.1 hI.2.2.2.2.1 hI.2.2.2.2.2.1, XJ_of (g := g) h zFT_11 ?_⟩
  have := XI_11 hI hp.1 hp.2.1
  rw [hp.2.2.2] at this
  exact this

/-! ### units of a text -/
def gTd (g : Int → Int) (B v : Int) : Int → Int := zup1 (gQa g B (g 7) v) 7 (g 7 + 1)
def pUn (u : Int → Int) (n B : Int) : Nat → (Int → Int) → Int → Int × Int × (Int → Int)
  | 0, g, p => (p, 0, g)
  | k + 1, g, p => if 24 ≤ g (B + 6) then (p, 0, g) else if txT u n p = 2 ∧ 1 ≤ txV u n p ∧ txV u n p ≤ 9 then (if txN u n p < n ∧ txK (u (txN u n p)) = 2 then pUn u n B k (gTd g B (txV u n p)) (txN u n p) else (-1, txN u n p, gTd g B (txV u n p))) else (p, 0, g)
def pAu (u : Int → Int) (n : Int) (g : Int → Int) (p : Int) : Int × Int × (Int → Int) := if txT u n p = 2 ∧ 0 ≤ txV u n p ∧ txV u n p ≤ g 3 - 1 then (if txT u n (txN u n p) = 17 then pUn u n (10 + 265 * txV u n p) 12 g (txN u n (txN u n p)) else (txN u n p, 0, g)) else (p, 0, g)
theorem gTd_7 {g : Int → Int} {B v : Int} : gTd g B v 7 = g 7 + 1 := zup1_eq rfl
theorem gTd_6 {g : Int → Int} {B v : Int} (hB : 10 ≤ B) (h : 0 ≤ g (B + 6)) : gTd g B v (B + 6) = g (B + 6) + 1 := by
  unfold gTd gQa
  rw [zup1_ne (by omega), zup1_eq rfl]
theorem l_units {q : Int × (Int → Int)} {d : Nat} {t : (Int → Int) × Nat × Nat × Nat × (Int → Int → Bool)} {u φ : Int → Int} {n l : Int} (hl : 0 ≤ l) (hl4 : l < 4) : ∀ (k : Nat) (g : Int → Int) (p c : Int) (f : Int → Int → Int) (v4 v5 : zV), XJ f u n φ (-1) p → 0 ≤ g (10 + 265 * l + 6) → 0 ≤ g 7 → g 7 + k ≤ 2000000 → c + k = 12 → ∃ f2, zD (true, q) (d + 4) zc_M_addUnits (zat zc_M_addUnits 32) [(20, 1464, 0), (0, l, 0), (0, 1, 0), (0, c, 0), v4, v5] [] (zrow f 1465 g, t) = some ((9, 0, 0), (zrow f2 1465 (pUn u n (10 + 265 * l) k g p).2.2, t)) ∧ zFT f f2 ∧ XJ f2 u n φ (pUn u n (10 + 265 * l) k g p).1 (pUn u n (10 + 265 * l) k g p).2.1 := by
  intro k
  -- a thing that is wrong ends it
  have bad : ∀ (g : Int → Int) (p c : Int) (f : Int → Int → Int) (v5 : zV), XJ f u n φ (-1) p → ∃ f2, zD (true, q) (d + 4) zc_M_addUnits (zat zc_M_addUnits 46) [(20, 1464, 0), (0, l, 0), (0, 1, 0), (0, c, 0), (0, p, 0), v5] [] (zrow f 1465 g, t) = some ((9, 0, 0), (zrow f2 1465 g, t)) ∧ zFT f f2 ∧ XJ f2 u n φ p 0 := by
    intro g p c f v5 h
    have hp := XJ_p h
    have i1 : XJ (zup f 1464 12 p) u n φ p 0 := XJ_er h zFT_12 (zup_nk (by decide)) (zupE rfl rfl) (by rw [zup_nk (by decide)]; exact h.2.2.2.2.1) (by omega)
    have n1 : zup f 1464 12 p 1464 12 ≠ -1 := by
      rw [zupE rfl rfl]
      omega
    obtain ⟨f2, r2, z2, i2⟩ := j_isFig9 (q := q) (d := d + 1) (t := t) (g := g) i1 (by omega)
    refine ⟨f2, ?_, zFT_trans zFT_12 z2, i2 0⟩
    rw [zb_M_addUnits_46, x_wrong h.2.2.2.2.2.1, zK_v, zb_M_addUnits_49, j_fig9 n1, zK_i, zb_M_addUnits_53]
    simp (disch := omega) only [zrow_ne]
    rw [if_pos n1, zb_M_addUnits_74, r2, zK_i, zb_M_addUnits_77, zb_M_addUnits_32, if_pos rfl, zb_M_addUnits_79]
  induction k with
  | zero =>
    intro g p c f v4 v5 h q0 t0 t1 hc
    obtain ⟨r1, i1⟩ := j_here (q := q) (d := d + 1) (t := t) (g := g) h
    obtain ⟨f2, r2, z2, i2⟩ := bad g p c _ v5 i1
    have hc : c = 12 := by omega
    rw [zb_M_addUnits_32, if_neg (by decide), zb_M_addUnits_34, r1, zK_i, zb_M_addUnits_36, if_pos hc, r2]
    exact ⟨f2, rfl, zFT_trans zFT_11 z2, i2⟩
  | succ k ih =>
    intro g p c f v4 v5 h q0 t0 t1 hc
    obtain ⟨r1, i1⟩ := j_here (q := q) (d := d + 1) (t := t) (g := g) h
    rw [zb_M_addUnits_32, if_neg (by decide), zb_M_addUnits_34, r1, zK_i, zb_M_addUnits_36, if_neg (by omega), zb_M_addUnits_40, r_of hl hl4 (by decide) (by decide), zK_i, zb_M_addUnits_44]
    unfold pUn
    by_cases c6 : g (10 + 265 * l + 6) < 24
    · rw [if_pos c6, if_neg (show ¬(24 ≤ g (10 + 265 * l + 6)) by omega)]
      obtain ⟨v, f2, r2, z2, a, b⟩ := j_fig (q := q) (d := d) (t := t) (g := g) (lo := 1) (hi := 9) i1
      rw [zb_M_addUnits_49, r2, zK_i, zb_M_addUnits_53]
      simp (disch := omega) only [zrow_ne]
      by_cases cv : txT u n p = 2 ∧ 1 ≤ txV u n p ∧ txV u n p ≤ 9
      · obtain ⟨ev, i2⟩ := a cv
        subst ev
        rw [if_neg (fun y => y i2.2.2.2.2.2.1), if_pos cv, zb_M_addUnits_58, zG2 (by decide) (by decide), zb_M_addUnits_64]
        simp (disch := omega) only [Int.reduceAdd, zrow_r]
        rw [r_queues hl hl4 q0 (by omega), zK_v]
        have e7 : gQa g (10 + 265 * l) (g 7) (txV u n p) 7 = g 7 := by
          unfold gQa
          simp (disch := omega) only [zup1_ne]
        show ∃ f3, zD (true, q) (d + 4) zc_M_addUnits (zat zc_M_addUnits 66) _ _ (zrow f2 1465 (gQa g (10 + 265 * l) (g 7) (txV u n p)), t) = _ ∧ _
        rw [zb_M_addUnits_66, zG2 (by decide) (by decide), zb_M_addUnits_71, zG2 (by decide) (by decide)]
        simp (disch := omega) only [Int.reduceAdd, zrow_r, zrow_in, e7, zw_id]
        show ∃ f3, zD (true, q) (d + 4) zc_M_addUnits (zat zc_M_addUnits 74) _ _ (zrow f2 1465 (gTd g (10 + 265 * l) (txV u n p)), t) = _ ∧ _
        obtain ⟨r3, i3⟩ := j_isFig (q := q) (d := d + 1) (t := t) (g := gTd g (10 + 265 * l) (txV u n p)) i2
        rw [zb_M_addUnits_74, r3, zK_i, zb_M_addUnits_77, zw_id (by omega) (by omega)]
        by_cases cm : txN u n p < n ∧ txK (u (txN u n p)) = 2
        · rw [if_pos cm, if_pos cm]
          obtain ⟨f9, r9, z9, i9⟩ := ih (gTd g (10 + 265 * l) (txV u n p)) (txN u n p) (c + 1) _ (0, p, 0) (0, txV u n p, 0) i3 (by rw [gTd_6 (by omega) q0]; omega) (by rw [gTd_7]; omega) (by rw [gTd_7]; omega) (by omega)
          exact ⟨f9, r9, zFT_trans (zFT_trans zFT_11 z2) (zFT_trans zFT_11 z9), i9⟩
        · rw [if_neg cm, if_neg cm, zb_M_addUnits_32, if_pos rfl, zb_M_addUnits_79]
          exact ⟨_, rfl, zFT_trans (zFT_trans zFT_11 z2) zFT_11, i3⟩
      · have i2 := b cv
        have hp := XJ_p h
        have n2 : f2 1464 12 ≠ -1 := by
          rw [i2.2.2.2.2.2.1]
          omega
        obtain ⟨f3, r3, z3, i3⟩ := j_isFig9 (q := q) (d := d + 1) (t := t) (g := g) i2 (by omega)
        rw [if_pos n2, if_neg cv, zb_M_addUnits_74, r3, zK_i, zb_M_addUnits_77, zb_M_addUnits_32, if_pos rfl, zb_M_addUnits_79]
        exact ⟨f3, rfl, zFT_trans (zFT_trans zFT_11 z2) z3, i3 0⟩
    · obtain ⟨f2, r2, z2, i2⟩ := bad g p c _ v5 i1
      rw [if_neg c6, if_pos (show 24 ≤ g (10 + 265 * l + 6) by omega), r2]
      exact ⟨f2, rfl, zFT_trans zFT_11 z2, i2⟩

