/-! ## the reference reads a condition -/
def XI (f : Int → Int → Int) (g u : Int → Int) (n : Int) (φ : Int → Int) (D p : Int) : Prop := RT f g u n ∧ XF f φ ∧ f 1464 12 = -1 ∧ 0 ≤ f 1464 11 ∧ f 1464 11 ≤ n ∧ txS u n (f 1464 11) = p ∧ f 1464 13 = D
theorem XI_p {f : Int → Int → Int} {g u : Int → Int} {n : Int} {φ : Int → Int} {D p : Int} (h : XI f g u n φ D p) : 0 ≤ p ∧ p ≤ n ∧ n ≤ 400 ∧ txS u n p = p := by
  obtain ⟨a, b, c, e, i, j, k⟩ := h
  have hr := txS_rng (u := u) i
  rw [j] at hr
  exact ⟨by omega, hr.2.1, a.2.1, txS_id hr.2.2⟩
theorem XI_11 {f : Int → Int → Int} {g u : Int → Int} {n : Int} {φ : Int → Int} {D p e : Int} (h : XI f g u n φ D p) (e0 : 0 ≤ e) (en : e ≤ n) : XI (zup f 1464 11 e) g u n φ D (txS u n e) := by
  obtain ⟨a, b, c, _, _, _, k⟩ := h
  exact ⟨RT_ft zFT_11 a, XF_ft zFT_11 b, (zup_nk (by decide)).trans c, by rw [zupE rfl rfl]; exact e0, by rw [zupE rfl rfl]; exact en, by rw [zupE rfl rfl], (zup_nk (by decide)).trans k⟩
theorem XO_ok {f f2 : Int → Int → Int} {g u : Int → Int} {n r : Int} {φ : Int → Int} {D p v : Int} {x : Bool × Int × List Int} (h : XI f g u n φ D p) (ho : XO f f2 u n r φ x v) (hx : x.1 = true) : XI f2 g u n φ D x.2.1 := by
  obtain ⟨a, b, c, _, _, _, k⟩ := h
  obtain ⟨o1, o2, o3, _⟩ := ho
  obtain ⟨y1, y2, y3, y4, _⟩ := o3 hx
  exact ⟨RT_ft o1 a, XF_ft o1 b, y1, o2, y3, y4, y2.trans k⟩
theorem XO_pre {f f1 f2 : Int → Int → Int} {u : Int → Int} {n r : Int} {φ : Int → Int} {v : Int} {x : Bool × Int × List Int} (h : zFT f f1) (h13 : f1 1464 13 = f 1464 13) (ho : XO f1 f2 u n r φ x v) : XO f f2 u n r φ x v := by
  obtain ⟨o1, o2, o3, o4⟩ := ho
  exact ⟨zFT_trans h o1, o2, fun z => ⟨(o3 z).1, (o3 z).2.1.trans h13, (o3 z).2.2⟩, o4⟩
theorem XO_r {f f2 : Int → Int → Int} {u : Int → Int} {n r r2 : Int} {φ : Int → Int} {v : Int} {x : Bool × Int × List Int} (h : r ≤ r2) (ho : XO f f2 u n r φ x v) : XO f f2 u n r2 φ x v := by
  obtain ⟨o1, o2, o3, o4⟩ := ho
  exact ⟨o1, o2, o3, fun z => ⟨(o4 z).1, by have := (o4 z).2.1; omega, (o4 z).2.2⟩⟩
/-- a run that fails, of a longer thing -/
theorem XO_fail {f f2 : Int → Int → Int} {u : Int → Int} {n r r2 : Int} {φ : Int → Int} {v w : Int} {x y : Bool × Int × List Int} (h : r ≤ r2) (ho : XO f f2 u n r φ x v) (hx : x.1 ≠ true) (hy : y.1 ≠ true) (e : y.2.1 = x.2.1) : XO f f2 u n r2 φ y w := by
  obtain ⟨o1, o2, _, o4⟩ := ho
  have := o4 hx
  exact ⟨o1, o2, fun z => absurd z hy, fun _ => ⟨this.1.trans e.symm, by omega, by rw [e]; exact this.2.2⟩⟩
theorem txT_lt {u : Int → Int} {n p : Int} (h : txT u n p ≠ 0) : p < n := by
  apply Classical.byContradiction
  intro z
  apply h
  unfold txT
  rw [if_pos (by omega)]
theorem x_hasI {q : Int × (Int → Int)} {d : Nat} {f : Int → Int → Int} {t : (Int → Int) × Nat × Nat × Nat × (Int → Int → Bool)} {g u φ : Int → Int} {n D p : Int} {w s : Int} (h : XI f g u n φ D p) (hw : 9 ≤ w ∧ w < 33) (hs : s = zWtx w) : ∃ f2, zM (true, q) (d + 4) 63 [(20, 1464, 0), (6, s, 0)] (zrow f 1465 g, t) = some ((0, if txT u n p = w then 1 else 0, 0), (zrow f2 1465 g, t)) ∧ zFT f f2 ∧ f2 1464 13 = f 1464 13 ∧ XI f2 g u n φ D (if txT u n p = w then txN u n p else p) := by
  have hp := XI_p h
  refine ⟨_, x_has h.1 h.2.2.2.1 h.2.2.2.2.1 h.2.2.2.2.2.1 hw hs, zFT_11, zup_nk (by decide), ?_⟩
  by_cases c : txT u n p = w
  · rw [if_pos c, if_pos c]
    have hl := txT_lt (u := u) (n := n) (p := p) (by omega)
    have hE := txE_rng (u := u) hl
    exact XI_11 h (by omega) hE.2
  · rw [if_neg c, if_neg c]
    have := XI_11 h hp.1 hp.2.1
    rw [hp.2.2.2] at this
    exact this
theorem x_signI {q : Int × (Int → Int)} {d : Nat} {f : Int → Int → Int} {t : (Int → Int) × Nat × Nat × Nat × (Int → Int → Bool)} {g u φ : Int → Int} {n D p : Int} {w c : Int} (h : XI f g u n φ D p) (hw : 3 ≤ w ∧ w < 9) (hc : zTx (zWtx w) = [c]) (hk : txK c = 0) : zM (true, q) (d + 2) 66 [(20, 1464, 0), (0, c, 0)] (zrow f 1465 g, t) = some ((0, if txT u n p = w then 1 else 0, 0), (zrow (zup f 1464 11 p) 1465 g, t)) ∧ XI (zup f 1464 11 p) g u n φ D p ∧ (txT u n p = w → XI (zup f 1464 11 (p + 1)) g u n φ D (txN u n p) ∧ p < n) := by
  have hp := XI_p h
  have hr := x_isSign (q := q) (d := d) (t := t) (c := c) h.1 h.2.2.2.1 h.2.2.2.2.1 h.2.2.2.2.2.1
  have hi := tx_sign (u := u) (n := n) (p := p) hw hc hk
  have e : (if p < n ∧ u p = c then (1 : Int) else 0) = if txT u n p = w then 1 else 0 := by
    by_cases z : txT u n p = w
    · rw [if_pos z, if_pos (hi.mpr z)]
    · rw [if_neg z, if_neg (fun y => z (hi.mp y))]
  rw [e] at hr
  refine ⟨hr, ?_, fun z => ?_⟩
  · have := XI_11 h hp.1 hp.2.1
    rw [hp.2.2.2] at this
    exact this
  · have y := hi.mpr z
    refine ⟨?_, y.1⟩
    have := XI_11 h (e := p + 1) (by omega) (by omega)
    have hE := tx_signE (n := n) y.2 hk
    unfold txN
    rw [hE]
    exact this
theorem x_partI {q : Int × (Int → Int)} {d : Nat} {f : Int → Int → Int} {t : (Int → Int) × Nat × Nat × Nat × (Int → Int → Bool)} {g u φ : Int → Int} {n D p : Int} (h : XI f g u n φ D p) : ∃ v f2, zM (true, q) (d + 5) 67 [(20, 1464, 0)] (zrow f 1465 g, t) = some ((0, v, 0), (zrow f2 1465 g, t)) ∧ XO f f2 u n 0 φ (pPart u n p) v := x_part h.1 h.2.1 h.2.2.1 h.2.2.2.1 h.2.2.2.2.1 h.2.2.2.2.2.1
theorem pPart_go {u : Int → Int} {n p : Int} (h : (pPart u n p).1 = true) : p < (pPart u n p).2.1 ∧ (pPart u n p).2.1 ≤ n := by
  unfold pPart at h ⊢
  by_cases c : txT u n p = 2
  · rw [if_pos c] at h ⊢
    have hl := txN_rng (u := u) (txT_lt (u := u) (n := n) (p := p) (by omega))
    by_cases c2 : txV u n p ≤ 999
    · rw [if_pos c2]
      show p < txN u n p ∧ txN u n p ≤ n
      omega
    · rw [if_neg c2] at h
      exact absurd h Bool.false_ne_true
  · rw [if_neg c] at h ⊢
    by_cases c2 : 0 ≤ zWfc (txT u n p) ∧ zWfc (txT u n p) < 7
    · rw [if_pos c2]
      have h0 : txT u n p ≠ 0 := fun z => by
        rw [z] at c2
        exact absurd c2.1 (by decide)
      have hl := txN_rng (u := u) (txT_lt h0)
      show p < txN u n p ∧ txN u n p ≤ n
      omega
    · rw [if_neg c2] at h
      exact absurd h Bool.false_ne_true
theorem xl_amount {q : Int × (Int → Int)} {d : Nat} {t : (Int → Int) × Nat × Nat × Nat × (Int → Int → Bool)} {g u φ : Int → Int} {n D : Int} : ∀ (k : Nat) (p v : Int) (c : List Int) (f : Int → Int → Int), XI f g u n φ D p → n ≤ p + k → (∀ st, zev φ c st = v :: st) → ∃ v2 f2, zD (true, q) (d + 6) zc_M_amount (zat zc_M_amount 3) [(20, 1464, 0), (0, v, 0)] [] (zrow f 1465 g, t) = some ((0, v2, 0), (zrow f2 1465 g, t)) ∧ XO f f2 u n 0 φ (pSumL u n k p c) v2 := by
  intro k
  induction k with
  | zero =>
    intro p v c f h hk hc
    have hp := XI_p h
    have hf := h.2.2.1
    obtain ⟨r1, i1, _⟩ := x_signI (q := q) (d := d + 3) (t := t) (w := 8) (c := 43) h (by decide) (by decide) (by decide)
    have hT : txT u n p ≠ 8 := fun z => by
      have := txT_lt (u := u) (n := n) (p := p) (by omega)
      omega
    rw [if_neg hT] at r1
    refine ⟨v, zup f 1464 11 p, ?_, zFT_11, by rw [zupE rfl rfl]; exact hp.1, fun _ => ⟨i1.2.2.1, zup_nk (by decide), i1.2.2.2.2.1, i1.2.2.2.2.2.1, hc⟩, fun z => absurd rfl z⟩
    rw [zb_M_amount_3]
    simp (disch := omega) only [zrow_ne]
    rw [if_neg (by omega), zb_M_amount_7, r1, zK_i, zb_M_amount_10, if_pos rfl, zb_M_amount_23]
  | succ k ih =>
    intro p v c f h hk hc
    have hp := XI_p h
    have hf := h.2.2.1
    obtain ⟨r1, i1, i2⟩ := x_signI (q := q) (d := d + 3) (t := t) (w := 8) (c := 43) h (by decide) (by decide) (by decide)
    rw [zb_M_amount_3]
    simp (disch := omega) only [zrow_ne]
    rw [if_neg (by omega), zb_M_amount_7, r1, zK_i, zb_M_amount_10]
    show ∃ v2 f2, _ ∧ XO f f2 u n 0 φ (if txT u n p = 8 then pB (pPart u n (txN u n p)) (fun p1 c1 => pSumL u n k p1 (c ++ c1 ++ [-106])) else (true, p, c)) v2
    by_cases hT : txT u n p = 8
    · obtain ⟨i3, hpn⟩ := i2 hT
      obtain ⟨w, f3, r3, o3⟩ := x_partI (q := q) (d := d) (t := t) i3
      have o3' : XO f f3 u n 0 φ (pPart u n (txN u n p)) w := XO_pre zFT_11 (zup_nk (by decide)) o3
      rw [if_pos hT, if_pos hT, if_neg (by decide), zb_M_amount_11]
      simp (disch := omega) only [zrow_ne, zupE, zrow_up, zup_zup]
      rw [zw_id (by omega) (by omega), r3, zK_i, zb_M_amount_20]
      unfold pB
      by_cases hx : (pPart u n (txN u n p)).1 = true
      · rw [if_pos hx]
        have hgo := pPart_go hx
        have hN := txN_rng (u := u) hpn
        have i4 := XO_ok h o3' hx
        obtain ⟨v2, f4, r4, o4⟩ := ih _ (zw (v + w)) (c ++ (pPart u n (txN u n p)).2.2 ++ [-106]) f3 i4 (by omega) (fun st => by
          rw [zev_2 (by decide) hc (o3.2.2.1 hx).2.2.2.2 st]
          rfl)
        exact ⟨v2, f4, r4, XO_pre o3'.1 (o3'.2.2.1 hx).2.1 o4⟩
      · rw [if_neg hx]
        refine ⟨zw (v + w), f3, ?_, XO_fail (Int.le_refl 0) o3' hx Bool.false_ne_true rfl⟩
        rw [zb_M_amount_3]
        simp (disch := omega) only [zrow_ne]
        have := o3.2.2.2 hx
        rw [if_pos (by omega), zb_M_amount_23]
    · rw [if_neg hT, if_neg hT, if_pos rfl, zb_M_amount_23]
      exact ⟨v, zup f 1464 11 p, rfl, zFT_11, by rw [zupE rfl rfl]; exact hp.1, fun _ => ⟨i1.2.2.1, zup_nk (by decide), i1.2.2.2.2.1, i1.2.2.2.2.2.1, hc⟩, fun z => absurd rfl z⟩
theorem x_amount {q : Int × (Int → Int)} {d : Nat} {f : Int → Int → Int} {t : (Int → Int) × Nat × Nat × Nat × (Int → Int → Bool)} {g u φ : Int → Int} {n D p : Int} (h : XI f g u n φ D p) : ∃ v f2, zM (true, q) (d + 6) 68 [(20, 1464, 0)] (zrow f 1465 g, t) = some ((0, v, 0), (zrow f2 1465 g, t)) ∧ XO f f2 u n 0 φ (pSum u n p) v := by
  obtain ⟨w, f3, r3, o3⟩ := x_partI (q := q) (d := d) (t := t) h
  rw [ze_M_amount, zb_M_amount_0, r3, zK_i, zb_M_amount_2]
  unfold pSum pB
  by_cases hx : (pPart u n p).1 = true
  · rw [if_pos hx]
    have i4 := XO_ok h o3 hx
    have hp4 := XI_p i4
    obtain ⟨v2, f4, r4, o4⟩ := xl_amount (q := q) (d := d) (t := t) (n - (pPart u n p).2.1).toNat _ w (pPart u n p).2.2 f3 i4 (by omega) (o3.2.2.1 hx).2.2.2.2
    exact ⟨v2, f4, r4, XO_pre o3.1 (o3.2.2.1 hx).2.1 o4⟩
  · rw [if_neg hx]
    refine ⟨w, f3, ?_, XO_fail (Int.le_refl 0) o3 hx Bool.false_ne_true rfl⟩
    rw [zb_M_amount_3]
    simp (disch := omega) only [zrow_ne]
    have := o3.2.2.2 hx
    rw [if_pos (by omega), zb_M_amount_23]
theorem x_plain {q : Int × (Int → Int)} {d : Nat} {f : Int → Int → Int} {t : (Int → Int) × Nat × Nat × Nat × (Int → Int → Bool)} {g u φ : Int → Int} {n D p : Int} (h : XI f g u n φ D p) : ∃ v f2, zM (true, q) (d + 7) 69 [(20, 1464, 0)] (zrow f 1465 g, t) = some ((0, v, 0), (zrow f2 1465 g, t)) ∧ XO f f2 u n 0 φ (pPlain u n p) v ∧ (v = 0 ∨ v = 1) := by
  have hw := txT_rng (u := u) (n := n) (p := p)
  have hb := h.2.1.2.2.2.2
  rw [ze_M_plain, zb_M_plain_0]
  unfold pPlain

  obtain ⟨f1, r1, y1, x1, i1⟩ := x_hasI (q := q) (d := d + 2) (t := t) (w := 26) (s := 5) h (by decide) (by decide)
  rw [r1, zK_i, zb_M_plain_3]
  by_cases c26 : txT u n p = 26
  · rw [if_pos c26] at i1
    have hfl : f1 1464 15 = φ 7 := i1.2.1.2.1
    rw [if_pos c26, if_neg (by decide), zb_M_plain_4]
    simp (disch := omega) only [zrow_ne]
    rw [hfl, zG2 (by omega) (by omega)]
    have ef : zWfc (txT u n p) = 7 := by rw [c26]; decide
    refine ⟨φ 7, f1, rfl, ?_, hb.1⟩
    rw [if_pos (by omega), ef]
    exact ⟨y1, i1.2.2.2.1, fun _ => ⟨i1.2.2.1, x1, i1.2.2.2.2.1, i1.2.2.2.2.2.1, fun st => zev_f (by decide) (by decide) st⟩, fun z => absurd rfl z⟩
  rw [if_neg c26] at i1 ⊢
  have z1 : zFT f f1 := y1
  have t1 : f1 1464 13 = f 1464 13 := x1
  rw [if_pos rfl, zb_M_plain_7]
  obtain ⟨f2, r2, y2, x2, i2⟩ := x_hasI (q := q) (d := d + 2) (t := t) (w := 27) (s := 6) i1 (by decide) (by decide)
  rw [r2, zK_i, zb_M_plain_10]
  by_cases c27 : txT u n p = 27
  · rw [if_pos c27] at i2
    have hfl : f2 1464 16 = φ 8 := i2.2.1.2.2.1
    rw [if_pos c27, if_neg (by decide), zb_M_plain_11]
    simp (disch := omega) only [zrow_ne]
    rw [hfl, zG2 (by omega) (by omega)]
    have ef : zWfc (txT u n p) = 8 := by rw [c27]; decide
    refine ⟨φ 8, f2, rfl, ?_, hb.2.1⟩
    rw [if_pos (by omega), ef]
    exact ⟨zFT_trans z1 y2, i2.2.2.2.1, fun _ => ⟨i2.2.2.1, x2.trans t1, i2.2.2.2.2.1, i2.2.2.2.2.2.1, fun st => zev_f (by decide) (by decide) st⟩, fun z => absurd rfl z⟩
  rw [if_neg c27] at i2 ⊢
  have z2 : zFT f f2 := zFT_trans z1 y2
  have t2 : f2 1464 13 = f 1464 13 := x2.trans t1
  rw [if_pos rfl, zb_M_plain_14]
  obtain ⟨f3, r3, y3, x3, i3⟩ := x_hasI (q := q) (d := d + 2) (t := t) (w := 28) (s := 7) i2 (by decide) (by decide)
  rw [r3, zK_i, zb_M_plain_17]
  by_cases c28 : txT u n p = 28
  · rw [if_pos c28] at i3
    have hfl : f3 1464 17 = φ 9 := i3.2.1.2.2.2.1
    rw [if_pos c28, if_neg (by decide), zb_M_plain_18]
    simp (disch := omega) only [zrow_ne]
    rw [hfl, zG2 (by omega) (by omega)]
    have ef : zWfc (txT u n p) = 9 := by rw [c28]; decide
    refine ⟨φ 9, f3, rfl, ?_, hb.2.2⟩
    rw [if_pos (by omega), ef]
    exact ⟨zFT_trans z2 y3, i3.2.2.2.1, fun _ => ⟨i3.2.2.1, x3.trans t2, i3.2.2.2.2.1, i3.2.2.2.2.2.1, fun st => zev_f (by decide) (by decide) st⟩, fun z => absurd rfl z⟩
  rw [if_neg c28] at i3 ⊢
  have z3 : zFT f f3 := zFT_trans z2 y3
  have t3 : f3 1464 13 = f 1464 13 := x3.trans t2
  rw [if_pos rfl, zb_M_plain_21]
  have hno : ¬7 ≤ zWfc (txT u n p) := fun z => by
    have := (txF7 hw.1 hw.2).2 z
    omega
  rw [if_neg hno]
  unfold pCmp pB
  obtain ⟨a, f4, r4, o4⟩ := x_amount (q := q) (d := d) (t := t) i3
  have o4' : XO f f4 u n 0 φ (pSum u n p) a := XO_pre z3 t3 o4
  rw [r4, zK_i, zb_M_plain_23]
  simp (disch := omega) only [zrow_ne]
  by_cases hx : (pSum u n p).1 = true
  · rw [if_pos hx]
    have i4 := XO_ok i3 o4 hx
    have hp4 := XI_p i4
    have f4f := i4.2.2.1
    obtain ⟨r5, i5, j5⟩ := x_signI (q := q) (d := d + 4) (t := t) (w := 6) (c := 60) i4 (by decide) (by decide) (by decide)
    have e5 : zup f4 1464 11 (pSum u n p).2.1 1464 11 = (pSum u n p).2.1 := zupE rfl rfl
    obtain ⟨r6, i6, j6⟩ := x_signI (q := q) (d := d + 4) (t := t) (w := 7) (c := 62) i5 (by decide) (by decide) (by decide)
    rw [zup_zup] at r6 i6
    rw [if_pos f4f, zb_M_plain_30, r5, zK_i, zb_M_plain_33]
    generalize hp1 : (pSum u n p).2.1 = p1 at *
    have f49 : zFT f (zup f4 1464 11 p1) := zFT_trans o4'.1 zFT_11
    have second : ∀ x2, (x2 = 0 ∨ x2 = 1) → (txT u n p1 = 6 ∨ txT u n p1 = 7) → (x2 = 1 ↔ txT u n p1 = 6) → XI (zup f4 1464 11 (p1 + 1)) g u n φ D (txN u n p1) → ∃ v f2, zD (true, q) (d + 7) zc_M_plain (zat zc_M_plain 46) [(20, 1464, 0), (0, a, 0), (0, x2, 0), (2, 0, 0)] [] (zrow (zup f4 1464 11 p1) 1465 g, t) = some ((0, v, 0), (zrow f2 1465 g, t)) ∧ XO f f2 u n 0 φ (if (pSum u n (txN u n p1)).1 = true then (true, (pSum u n (txN u n p1)).2.1, (pSum u n p).2.2 ++ (pSum u n (txN u n p1)).2.2 ++ [if txT u n p1 = 6 then -104 else -105]) else (false, (pSum u n (txN u n p1)).2.1, [])) v ∧ (v = 0 ∨ v = 1) := by
      intro x2 hx2 hT hiff i7
      obtain ⟨b, f8, r8, o8⟩ := x_amount (q := q) (d := d) (t := t) i7
      have o8' : XO f f8 u n 0 φ (pSum u n (txN u n p1)) b := XO_pre (zFT_trans o4'.1 zFT_11) ((zup_nk (by decide)).trans (o4'.2.2.1 hx).2.1) o8
      rw [zb_M_plain_46]
      simp (disch := omega) only [zrow_ne, zupE, zrow_up, zup_zup]
      rw [zw_id (by omega) (by omega), r8, zK_i, zb_M_plain_54]
      -- what it is worth
      have fin : ∀ v, (v = if txT u n p1 = 6 then (if a < b then 1 else 0) else (if b < a then (1 : Int) else 0)) → XO f f8 u n 0 φ (if (pSum u n (txN u n p1)).1 = true then (true, (pSum u n (txN u n p1)).2.1, (pSum u n p).2.2 ++ (pSum u n (txN u n p1)).2.2 ++ [if txT u n p1 = 6 then -104 else -105]) else (false, (pSum u n (txN u n p1)).2.1, [])) v := by
        intro v hv
        by_cases hx8 : (pSum u n (txN u n p1)).1 = true
        · rw [if_pos hx8]
          obtain ⟨m1, m2, m3, m4, m5⟩ := o8'.2.2.1 hx8
          refine ⟨o8'.1, o8'.2.1, fun _ => ⟨m1, m2, m3, m4, fun st => ?_⟩, fun z => absurd rfl z⟩
          show zev φ ((pSum u n p).2.2 ++ (pSum u n (txN u n p1)).2.2 ++ [if txT u n p1 = 6 then -104 else -105]) st = v :: st
          rw [zev_2 (by split <;> decide) (o4.2.2.1 hx).2.2.2.2 m5 st, hv]
          unfold zjn
          by_cases h6 : txT u n p1 = 6
          · rw [if_pos h6, if_pos h6, if_neg (by decide), if_neg (by decide), if_pos rfl]
          · rw [if_neg h6, if_neg h6, if_neg (by decide), if_neg (by decide), if_neg (by decide), if_pos rfl]
        · rw [if_neg hx8]
          exact XO_fail (Int.le_refl 0) o8' hx8 Bool.false_ne_true rfl
      by_cases h2 : x2 = 0
      · have h6 : ¬txT u n p1 = 6 := fun z => by
          have := hiff.mpr z
          omega
        rw [if_pos h2, zb_M_plain_64]
        by_cases hab : b < a
        · rw [if_neg (by omega), zb_M_plain_67, zG2 (by decide) (by decide)]
          exact ⟨1, f8, rfl, fin 1 (by rw [if_neg h6, if_pos hab]), Or.inr rfl⟩
        · rw [if_pos (by omega), zb_M_plain_69, zG2 (by decide) (by decide)]
          exact ⟨0, f8, rfl, fin 0 (by rw [if_neg h6, if_neg hab]), Or.inl rfl⟩
      · have h6 : txT u n p1 = 6 := hiff.mp (by omega)
        rw [if_neg h2, zb_M_plain_57]
        by_cases hab : a < b
        · rw [if_neg (by omega), zb_M_plain_60, zG2 (by decide) (by decide)]
          exact ⟨1, f8, rfl, fin 1 (by rw [if_pos h6, if_pos hab]), Or.inr rfl⟩
        · rw [if_pos (by omega), zb_M_plain_62, zG2 (by decide) (by decide)]
          exact ⟨0, f8, rfl, fin 0 (by rw [if_pos h6, if_neg hab]), Or.inl rfl⟩
    by_cases h6 : txT u n p1 = 6
    · rw [if_pos h6, if_pos (by decide)]
      rw [if_pos (show txT u n p1 = 6 ∨ txT u n p1 = 7 from Or.inl h6)]
      exact second 1 (Or.inr rfl) (Or.inl h6) ⟨fun _ => h6, fun _ => rfl⟩ (j5 h6).1
    · rw [if_neg h6, if_neg (by decide), zb_M_plain_36, r6, zK_i, zb_M_plain_39]
      by_cases h7 : txT u n p1 = 7
      · have j7 := (j6 h7).1
        rw [zup_zup] at j7
        rw [if_pos h7, if_pos (by decide), if_pos (show txT u n p1 = 6 ∨ txT u n p1 = 7 from Or.inr h7)]
        exact second 0 (Or.inl rfl) (Or.inr h7) ⟨fun z => absurd z (by decide), fun z => absurd z h6⟩ j7
      · rw [if_neg h7, if_neg (by decide), if_neg (fun z => z.elim h6 h7), zb_M_plain_40]
        simp (disch := omega) only [zrow_ne, zupE]
        rw [x_wrong (by rw [zup_nk (by decide)]; exact f4f), zK_v, zb_M_plain_44, zG2 (by decide) (by decide)]
        refine ⟨0, _, rfl, ⟨zFT_trans f49 zFT_12, by rw [zup_nk (by decide), zupE rfl rfl]; omega, fun z => absurd z Bool.false_ne_true, fun _ => ⟨zupE rfl rfl, by rw [zup_nk (by decide), zupE rfl rfl]; omega, by show 0 ≤ p1; omega⟩⟩, Or.inl rfl⟩
  · rw [if_neg hx]
    have := o4.2.2.2 hx
    rw [if_neg (by omega), zb_M_plain_28, zG2 (by decide) (by decide)]
    exact ⟨0, f4, rfl, XO_fail (Int.le_refl 0) o4' hx Bool.false_ne_true rfl, Or.inl rfl⟩
