/-! ## lines of a law -/
def pKd (w : Int) : Int := if w = 19 then 0 else if w = 20 then 1 else if w = 21 then 2 else -1
def pLn (u : Int → Int) (n p : Int) : Bool × Int × (Int × Int × List Int) := if pKd (txT u n p) = -1 then (false, p, 0, 0, []) else if txT u n (txN u n p) = 2 ∧ 0 ≤ txV u n (txN u n p) ∧ txV u n (txN u n p) ≤ 99 then (if txT u n (txN u n (txN u n p)) = 22 then ((pSo u n (pAt u n 6) (txN u n (txN u n (txN u n p)))).1, (pSo u n (pAt u n 6) (txN u n (txN u n (txN u n p)))).2.1, pKd (txT u n p), txV u n (txN u n p), (pSo u n (pAt u n 6) (txN u n (txN u n (txN u n p)))).2.2) else (true, txN u n (txN u n p), pKd (txT u n p), txV u n (txN u n p), [])) else (false, txN u n p, 0, 0, [])
def zHo (φ : Int → Int) (c : List Int) : Bool := if c.isEmpty = true then true else if (zev φ c []).headD 0 = 0 then false else true
def zA18 (φ : Int → Int) (l : Int × Int × List Int) (x : Int) : Int := if zHo φ l.2.2 = true then zw (x + (if l.1 = 0 then l.2.1 else if l.1 = 1 then -l.2.1 else 0)) else x
def zA19 (φ : Int → Int) (l : Int × Int × List Int) (x : Int) : Int := if zHo φ l.2.2 = true then zw (x + (if l.1 = 2 then l.2.1 else 0)) else x
def zFU (f f2 : Int → Int → Int) : Prop := ∀ o k, (o ≠ 1464 ∨ (k ≠ 11 ∧ k ≠ 12 ∧ k ≠ 13 ∧ k ≠ 18 ∧ k ≠ 19)) → f2 o k = f o k
theorem zFU_refl {f : Int → Int → Int} : zFU f f := fun _ _ _ => rfl
theorem zFU_trans {f f2 f3 : Int → Int → Int} (h : zFU f f2) (h2 : zFU f2 f3) : zFU f f3 := fun o k a => (h2 o k a).trans (h o k a)
theorem zFU_ft {f f2 : Int → Int → Int} (h : zFT f f2) : zFU f f2 := fun o k a => h o k (by omega)
theorem zFU_up {f : Int → Int → Int} {k v : Int} (h : k = 11 ∨ k = 12 ∨ k = 13 ∨ k = 18 ∨ k = 19) : zFU f (zup f 1464 k v) := fun o j a => zup_nka (by omega)
theorem XI_fu {f f2 : Int → Int → Int} {g u : Int → Int} {n : Int} {φ : Int → Int} {D p p2 : Int} (e : zFU f f2) (h : XI f g u n φ D p) (h12 : f2 1464 12 = -1) (h11 : 0 ≤ f2 1464 11 ∧ f2 1464 11 ≤ n) (hs : txS u n (f2 1464 11) = p2) (h13 : f2 1464 13 = f 1464 13) : XI f2 g u n φ D p2 := by
  obtain ⟨⟨a1, a2, a3, a4⟩, ⟨b1, b2, b3, b4, b5⟩, c, x, i, j, k⟩ := h
  refine ⟨⟨a1, a2, (e _ _ (by omega)).trans a3, ?_⟩, ⟨fun k k0 k1 => (e _ _ (by omega)).trans (b1 k k0 k1), (e _ _ (by omega)).trans b2, (e _ _ (by omega)).trans b3, (e _ _ (by omega)).trans b4, b5⟩, h12, h11.1, h11.2, hs, h13.trans k⟩
  rcases a4 with ⟨h3, h4⟩ | ⟨h3, h4⟩
  · exact Or.inl ⟨(e _ _ (by omega)).trans h3, fun k k0 k1 => (e _ _ (by omega)).trans (h4 k k0 k1)⟩
  · exact Or.inr ⟨(e _ _ (by omega)).trans h3, h4⟩
def XL (f f2 : Int → Int → Int) (u : Int → Int) (n : Int) (φ : Int → Int) (x : Bool × Int × (Int × Int × List Int)) : Prop := zFU f f2 ∧ 0 ≤ f2 1464 11 ∧ (x.1 = true → f2 1464 12 = -1 ∧ f2 1464 13 = f 1464 13 ∧ f2 1464 11 ≤ n ∧ txS u n (f2 1464 11) = x.2.1 ∧ f2 1464 18 = zA18 φ x.2.2 (f 1464 18) ∧ f2 1464 19 = zA19 φ x.2.2 (f 1464 19)) ∧ (x.1 ≠ true → f2 1464 12 = x.2.1 ∧ f2 1464 11 ≤ n + 6 ∧ 0 ≤ x.2.1)
theorem XL_pre {f f1 f2 : Int → Int → Int} {u : Int → Int} {n : Int} {φ : Int → Int} {x : Bool × Int × (Int × Int × List Int)} (h : zFT f f1) (h13 : f1 1464 13 = f 1464 13) (ho : XL f1 f2 u n φ x) : XL f f2 u n φ x := by
  obtain ⟨o1, o2, o3, o4⟩ := ho
  refine ⟨zFU_trans (zFU_ft h) o1, o2, fun z => ?_, o4⟩
  obtain ⟨m1, m2, m3, m4, m5, m6⟩ := o3 z
  rw [h 1464 18 (by omega)] at m5
  rw [h 1464 19 (by omega)] at m6
  exact ⟨m1, m2.trans h13, m3, m4, m5, m6⟩
theorem x_hasP {q : Int × (Int → Int)} {d : Nat} {f : Int → Int → Int} {t : (Int → Int) × Nat × Nat × Nat × (Int → Int → Bool)} {g u φ : Int → Int} {n D p : Int} {w s : Int} (h : XI f g u n φ D p) (hw : 9 ≤ w ∧ w < 33) (hs : s = zWtx w) : ∃ f2, zM (true, q) (d + 4) 63 [(20, 1464, 0), (6, s, 0)] (zrow f 1465 g, t) = some ((0, if txT u n p = w then 1 else 0, 0), (zrow f2 1465 g, t)) ∧ zFT f f2 ∧ f2 1464 13 = f 1464 13 ∧ XI f2 g u n φ D (if txT u n p = w then txN u n p else p) ∧ (txT u n p ≠ w → f2 1464 11 = p) := by
  have hp := XI_p h
  refine ⟨_, x_has h.1 h.2.2.2.1 h.2.2.2.2.1 h.2.2.2.2.2.1 hw hs, zFT_11, zup_nk (by decide), ?_, fun c => by rw [if_neg c, zupE rfl rfl]⟩
  by_cases c : txT u n p = w
  · rw [if_pos c, if_pos c]
    have hl := txT_lt (u := u) (n := n) (p := p) (by omega)
    have hE := txE_rng (u := u) hl
    exact XI_11 h (by omega) hE.2
  · rw [if_neg c, if_neg c]
    have := XI_11 h hp.1 hp.2.1
    rw [hp.2.2.2] at this
    exact this
theorem x_figI {q : Int × (Int → Int)} {d : Nat} {f : Int → Int → Int} {t : (Int → Int) × Nat × Nat × Nat × (Int → Int → Bool)} {g u φ : Int → Int} {n D p : Int} {lo hi : Int} (h : XI f g u n φ D p) : ∃ v f2, zM (true, q) (d + 3) 65 [(20, 1464, 0), (0, lo, 0), (0, hi, 0)] (zrow f 1465 g, t) = some ((0, v, 0), (zrow f2 1465 g, t)) ∧ zFT f f2 ∧ f2 1464 13 = f 1464 13 ∧ (txT u n p = 2 ∧ lo ≤ txV u n p ∧ txV u n p ≤ hi → v = txV u n p ∧ XI f2 g u n φ D (txN u n p)) ∧ (¬(txT u n p = 2 ∧ lo ≤ txV u n p ∧ txV u n p ≤ hi) → f2 1464 12 = p ∧ 0 ≤ f2 1464 11 ∧ f2 1464 11 ≤ n) := by
  have hp := XI_p h
  obtain ⟨v, f2, r, a1, a2⟩ := x_figures (q := q) (d := d) (t := t) (lo := lo) (hi := hi) h.1 h.2.2.2.1 h.2.2.2.2.1 h.2.2.2.2.2.1 h.2.2.1
  refine ⟨v, f2, r, ?_⟩
  by_cases c : txT u n p = 2 ∧ lo ≤ txV u n p ∧ txV u n p ≤ hi
  · obtain ⟨b1, b2⟩ := a1 c
    subst b2
    refine ⟨zFT_11, zup_nk (by decide), fun _ => ⟨b1, ?_⟩, fun z => absurd c z⟩
    have hl := txT_lt (u := u) (n := n) (p := p) (by omega)
    have hE := txE_rng (u := u) hl
    exact XI_11 h (by omega) hE.2
  · obtain ⟨b1, b2, b3, b4⟩ := a2 c
    exact ⟨fun o k ho => b2 o k (by omega), b2 _ _ (by omega), fun z => absurd z c, fun _ => ⟨b1, b3, b4⟩⟩
theorem xl_line {q : Int × (Int → Int)} {d : Nat} {f : Int → Int → Int} {t : (Int → Int) × Nat × Nat × Nat × (Int → Int → Bool)} {g u φ : Int → Int} {n D p : Int} {kd : Int} (hk : kd = 0 ∨ kd = 1 ∨ kd = 2) (hD : D = 0) (h : XI f g u n φ D p) : ∃ f2, zD (true, q) (d + 29) zc_M_lawLine (zat zc_M_lawLine 28) [(20, 1464, 0), (0, kd, 0), (2, 0, 0), (2, 0, 0)] [] (zrow f 1465 g, t) = some ((9, 0, 0), (zrow f2 1465 g, t)) ∧ XL f f2 u n φ (if txT u n p = 2 ∧ 0 ≤ txV u n p ∧ txV u n p ≤ 99 then (if txT u n (txN u n p) = 22 then ((pSo u n (pAt u n 6) (txN u n (txN u n p))).1, (pSo u n (pAt u n 6) (txN u n (txN u n p))).2.1, kd, txV u n p, (pSo u n (pAt u n 6) (txN u n (txN u n p))).2.2) else (true, txN u n p, kd, txV u n p, [])) else (false, p, 0, 0, [])) := by
  have hp := XI_p h
  obtain ⟨v, f1, r1, z1, t1, a1, a2⟩ := x_figI (q := q) (d := d + 25) (t := t) (lo := 0) (hi := 99) h
  rw [zb_M_lawLine_28, r1, zK_i, zb_M_lawLine_32]
  simp (disch := omega) only [zrow_ne]
  by_cases c : txT u n p = 2 ∧ 0 ≤ txV u n p ∧ txV u n p ≤ 99
  · obtain ⟨b1, i1⟩ := a1 c
    rw [if_pos c, if_pos i1.2.2.1, zb_M_lawLine_38, b1]
    obtain ⟨f2, r2, y2, x2, i2⟩ := x_hasI (q := q) (d := d + 24) (t := t) (w := 22) (s := 3) i1 (by decide) (by decide)
    have z2 : zFT f f2 := zFT_trans z1 y2
    have t2 : f2 1464 13 = f 1464 13 := x2.trans t1
    rw [r2, zK_i, zb_M_lawLine_41]
    -- adding it
    have add : ∀ (f9 : Int → Int → Int) (cd : List Int) (y : Int), zFT f f9 → f9 1464 13 = f 1464 13 → XI f9 g u n φ D (txS u n (f9 1464 11)) → (y = 0 ∨ y = 1) → (zHo φ cd = true ↔ y = 1) → ∃ f3, (if f9 1464 12 ≠ -1 then zD (true, q) (d + 29) zc_M_lawLine (zat zc_M_lawLine 55) [(20, 1464, 0), (0, kd, 0), (0, txV u n p, 0), (0, y, 0)] [] (zrow f9 1465 g, t) else zD (true, q) (d + 29) zc_M_lawLine (zat zc_M_lawLine 53) [(20, 1464, 0), (0, kd, 0), (0, txV u n p, 0), (0, y, 0)] [] (zrow f9 1465 g, t)) = some ((9, 0, 0), (zrow f3 1465 g, t)) ∧ XL f f3 u n φ (true, txS u n (f9 1464 11), kd, txV u n p, cd) := by
      intro f9 cd y z9 t9 i9 hy hho
      have e18 : f9 1464 18 = f 1464 18 := z9 _ _ (by omega)
      have e19 : f9 1464 19 = f 1464 19 := z9 _ _ (by omega)
      rw [if_neg (fun z => z i9.2.2.1), zb_M_lawLine_53]
      rcases hy with rfl | rfl
      · have hn : ¬zHo φ cd = true := fun z => absurd (hho.mp z) (by decide)
        rw [if_neg (by decide), zb_M_lawLine_55]
        refine ⟨f9, rfl, zFU_ft z9, i9.2.2.2.1, fun _ => ⟨i9.2.2.1, t9, i9.2.2.2.2.1, rfl, ?_, ?_⟩, fun z => absurd rfl z⟩
        · unfold zA18
          rw [if_neg hn]
          exact e18
        · unfold zA19
          rw [if_neg hn]
          exact e19
      · have hh : zHo φ cd = true := hho.mpr rfl
        have fin : ∀ s18 s19, s18 = zw (f 1464 18 + (if kd = 0 then txV u n p else if kd = 1 then -txV u n p else 0)) → s19 = zw (f 1464 19 + (if kd = 2 then txV u n p else 0)) → XL f (zup (zup f9 1464 18 s18) 1464 19 s19) u n φ (true, txS u n (f9 1464 11), kd, txV u n p, cd) := by
          intro s18 s19 h18 h19
          refine ⟨zFU_trans (zFU_ft z9) (zFU_trans (zFU_up (by omega)) (zFU_up (by omega))), by rw [zup_nk (by decide), zup_nk (by decide)]; exact i9.2.2.2.1, fun _ => ⟨by rw [zup_nk (by decide), zup_nk (by decide)]; exact i9.2.2.1, by rw [zup_nk (by decide), zup_nk (by decide)]; exact t9, by rw [zup_nk (by decide), zup_nk (by decide)]; exact i9.2.2.2.2.1, by rw [zup_nk (by decide), zup_nk (by decide)], ?_, ?_⟩, fun z => absurd rfl z⟩
          · rw [zup_nk (by decide), zupE rfl rfl, h18]
            unfold zA18
            rw [if_pos hh]
          · rw [zupE rfl rfl, h19]
            unfold zA19
            rw [if_pos hh]
        rw [if_pos (by decide), zb_M_lawLine_56]
        simp (disch := omega) only [zrow_ne, e18]
        rcases hk with rfl | rfl | rfl
        · rw [if_neg (by decide), zb_M_lawLine_61, if_pos (by decide), zb_M_lawLine_80]
          simp (disch := omega) only [zrow_ne, zrow_up, zup_nk, e19]
          exact ⟨_, rfl, fin _ _ (by rw [if_pos rfl]) (by rw [if_neg (by decide)])⟩
        · rw [if_pos (by decide), zb_M_lawLine_63, if_neg (by decide), zb_M_lawLine_66, if_pos (by decide), zb_M_lawLine_80]
          simp (disch := omega) only [zrow_ne, zrow_up, zup_nk, e19]
          exact ⟨_, rfl, fin _ _ (by rw [if_neg (by decide), if_pos rfl, zw_id (show -2147483648 ≤ -txV u n p by omega) (by omega)]) (by rw [if_neg (by decide)])⟩
        · rw [if_pos (by decide), zb_M_lawLine_63, if_pos (by decide), zb_M_lawLine_69, if_neg (by decide), zb_M_lawLine_78]
          simp (disch := omega) only [zrow_ne, zrow_up, zup_nk, e19]
          exact ⟨_, rfl, fin _ _ (by rw [if_neg (by decide), if_neg (by decide)]) (by rw [if_pos rfl])⟩
    by_cases c2 : txT u n (txN u n p) = 22
    · rw [if_pos c2] at i2
      rw [if_pos c2, if_neg (by decide), if_pos c2, zb_M_lawLine_42]
      obtain ⟨w, f3, r3, o3, hw⟩ := x_some (q := q) (d := d) (e := 18) (t := t) (r := 6) (D := D) (by
        have := x_atom (q := q) (t := t) (g := g) (u := u) (φ := φ) (n := n) 6 (by decide)
        rw [hD]
        exact this) (pAt_go 6) (by decide) i2
      have r3 : zM (true, q) (d + 28) 72 [(20, 1464, 0)] (zrow f2 1465 g, t) = some ((0, w, 0), (zrow f3 1465 g, t)) := r3
      have z3 : zFT f f3 := zFT_trans z2 o3.1
      rw [r3, zK_i, zb_M_lawLine_44]
      by_cases hx : (pSo u n (pAt u n 6) (txN u n (txN u n p))).1 = true
      · have i3 := XO_ok i2 o3 hx
        obtain ⟨m1, m2, m3, m4, m5⟩ := o3.2.2.1 hx
        have hne : (pSo u n (pAt u n 6) (txN u n (txN u n p))).2.2.isEmpty ≠ true := fun z => by
          have m6 := m5 []
          rw [List.isEmpty_iff.mp z] at m6
          exact absurd m6 (by simp [zev])
        have hho : zHo φ (pSo u n (pAt u n 6) (txN u n (txN u n p))).2.2 = true ↔ w = 1 := by
          unfold zHo
          rw [if_neg hne, m5 []]
          show (if w = 0 then false else true) = true ↔ w = 1
          rcases hw with rfl | rfl
          · exact ⟨fun z => absurd z (by decide), fun z => absurd z (by decide)⟩
          · exact ⟨fun _ => rfl, fun _ => rfl⟩
        have i9 : XI f3 g u n φ D (txS u n (f3 1464 11)) := by
          rw [m4]
          exact i3
        obtain ⟨f4, r4, x4⟩ := add f3 _ w z3 (m2.trans t2) i9 hw hho
        rw [m4] at x4
        rw [hx]
        rcases hw with rfl | rfl
        · rw [if_pos rfl, zb_M_lawLine_47]
          simp (disch := omega) only [zrow_ne]
          exact ⟨f4, r4, x4⟩
        · rw [if_neg (by decide), zb_M_lawLine_45]
          simp (disch := omega) only [zrow_ne]
          exact ⟨f4, r4, x4⟩
      · obtain ⟨m1, m2, m3⟩ := o3.2.2.2 hx
        have bad : XL f f3 u n φ ((pSo u n (pAt u n 6) (txN u n (txN u n p))).1, (pSo u n (pAt u n 6) (txN u n (txN u n p))).2.1, kd, txV u n p, (pSo u n (pAt u n 6) (txN u n (txN u n p))).2.2) := ⟨zFU_ft z3, o3.2.1, fun z => absurd z hx, fun _ => ⟨m1, by omega, m3⟩⟩
        rcases hw with rfl | rfl
        · rw [if_pos rfl, zb_M_lawLine_47]
          simp (disch := omega) only [zrow_ne]
          rw [if_pos (by omega), zb_M_lawLine_55]
          exact ⟨f3, rfl, bad⟩
        · rw [if_neg (by decide), zb_M_lawLine_45]
          simp (disch := omega) only [zrow_ne]
          rw [if_pos (by omega), zb_M_lawLine_55]
          exact ⟨f3, rfl, bad⟩
    · rw [if_neg c2] at i2
      rw [if_neg c2, if_pos rfl, if_neg c2, zb_M_lawLine_45]
      simp (disch := omega) only [zrow_ne]
      have i9 : XI f2 g u n φ D (txS u n (f2 1464 11)) := by
        rw [i2.2.2.2.2.2.1]
        exact i2
      obtain ⟨f4, r4, x4⟩ := add f2 [] 1 z2 t2 i9 (Or.inr rfl) ⟨fun _ => rfl, fun _ => rfl⟩
      rw [i2.2.2.2.2.2.1] at x4
      exact ⟨f4, r4, x4⟩
  · obtain ⟨b1, b2, b3⟩ := a2 c
    rw [if_neg c, if_neg (by omega), zb_M_lawLine_37]
    exact ⟨f1, rfl, zFU_ft z1, b2, fun z => absurd z Bool.false_ne_true, fun _ => ⟨b1, by omega, hp.1⟩⟩
theorem x_lawLine {q : Int × (Int → Int)} {d : Nat} {f : Int → Int → Int} {t : (Int → Int) × Nat × Nat × Nat × (Int → Int → Bool)} {g u φ : Int → Int} {n D p : Int} (hD : D = 0) (h : XI f g u n φ D p) : ∃ f2, zM (true, q) (d + 29) 73 [(20, 1464, 0)] (zrow f 1465 g, t) = some ((9, 0, 0), (zrow f2 1465 g, t)) ∧ XL f f2 u n φ (pLn u n p) := by
  have hp := XI_p h
  rw [ze_M_lawLine, zb_M_lawLine_0]
  unfold pLn pKd
  obtain ⟨f1, r1, y1, x1, i1⟩ := x_hasI (q := q) (d := d + 24) (t := t) (w := 19) (s := 0) h (by decide) (by decide)
  rw [r1, zK_i, zb_M_lawLine_3]
  by_cases c1 : txT u n p = 19
  · rw [if_pos c1] at i1
    obtain ⟨f9, r9, x9⟩ := xl_line (q := q) (d := d) (t := t) (kd := 0) (Or.inl rfl) hD i1
    rw [if_pos c1, if_neg (by decide), zb_M_lawLine_4, if_pos (by decide), if_pos c1, if_neg (by decide)]
    exact ⟨f9, r9, XL_pre y1 x1 x9⟩
  rw [if_neg c1] at i1
  rw [if_neg c1, if_pos rfl, if_neg c1, zb_M_lawLine_6]
  obtain ⟨f2, r2, y2, x2, i2⟩ := x_hasI (q := q) (d := d + 24) (t := t) (w := 20) (s := 1) i1 (by decide) (by decide)
  have z2 : zFT f f2 := zFT_trans y1 y2
  have t2 : f2 1464 13 = f 1464 13 := x2.trans x1
  rw [r2, zK_i, zb_M_lawLine_9]
  by_cases c2 : txT u n p = 20
  · rw [if_pos c2] at i2
    obtain ⟨f9, r9, x9⟩ := xl_line (q := q) (d := d) (t := t) (kd := 1) (Or.inr (Or.inl rfl)) hD i2
    rw [if_pos c2, if_neg (by decide), zb_M_lawLine_10, if_pos (by decide), if_pos c2, if_neg (by decide)]
    exact ⟨f9, r9, XL_pre z2 t2 x9⟩
  rw [if_neg c2] at i2
  rw [if_neg c2, if_pos rfl, if_neg c2, zb_M_lawLine_12]
  obtain ⟨f3, r3, y3, x3, i3, j3⟩ := x_hasP (q := q) (d := d + 24) (t := t) (w := 21) (s := 2) i2 (by decide) (by decide)
  have z3 : zFT f f3 := zFT_trans z2 y3
  have t3 : f3 1464 13 = f 1464 13 := x3.trans t2
  rw [r3, zK_i, zb_M_lawLine_15]
  by_cases c3 : txT u n p = 21
  · rw [if_pos c3] at i3
    obtain ⟨f9, r9, x9⟩ := xl_line (q := q) (d := d) (t := t) (kd := 2) (Or.inr (Or.inr rfl)) hD i3
    rw [if_pos c3, if_neg (by decide), zb_M_lawLine_16, if_pos (by decide), if_pos c3, if_neg (by decide)]
    exact ⟨f9, r9, XL_pre z3 t3 x9⟩
  rw [if_neg c3] at i3
  rw [if_neg c3, if_pos rfl, if_neg c3, if_pos rfl, zb_M_lawLine_18, if_neg (by decide), zb_M_lawLine_23]
  simp (disch := omega) only [zrow_ne]
  rw [j3 c3, x_wrong i3.2.2.1, zK_v, zb_M_lawLine_27]
  exact ⟨_, rfl, zFU_trans (zFU_ft z3) (zFU_up (by omega)), by rw [zup_nk (by decide)]; exact i3.2.2.2.1, fun z => absurd z Bool.false_ne_true, fun _ => ⟨zupE rfl rfl, by rw [zup_nk (by decide)]; have := i3.2.2.2.2.1; omega, hp.1⟩⟩
