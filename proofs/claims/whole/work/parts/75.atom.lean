/-! ## the reference reads atoms -/
def XAt (q : Int × (Int → Int)) (t : (Int → Int) × Nat × Nat × Nat × (Int → Int → Bool)) (g u φ : Int → Int) (n : Int) (A : Int → Bool × Int × List Int) (D : Int) (E : Nat) (r : Int) : Prop := ∀ (d : Nat) (f : Int → Int → Int) (p : Int), XI f g u n φ D p → ∃ v f2, zM (true, q) (d + E) 70 [(20, 1464, 0)] (zrow f 1465 g, t) = some ((0, v, 0), (zrow f2 1465 g, t)) ∧ XO f f2 u n r φ (A p) v ∧ (v = 0 ∨ v = 1)
def pGoA (n : Int) (A : Int → Bool × Int × List Int) : Prop := ∀ p, (A p).1 = true → p < (A p).2.1 ∧ (A p).2.1 ≤ n
theorem pEvL_go {u : Int → Int} {n : Int} {A : Int → Bool × Int × List Int} (hgo : pGoA n A) : ∀ (k : Nat) (p : Int) (c : List Int), p ≤ n → (pEvL u n A k p c).1 = true → p ≤ (pEvL u n A k p c).2.1 ∧ (pEvL u n A k p c).2.1 ≤ n := by
  intro k
  induction k with
  | zero => intro p c hp _; exact ⟨Int.le_refl p, hp⟩
  | succ k ih =>
    intro p c hp
    show (if txT u n p = 24 then pB (A (txN u n p)) (fun p1 c1 => pEvL u n A k p1 (c ++ c1 ++ [-102])) else (true, p, c)).1 = true → p ≤ (if txT u n p = 24 then pB (A (txN u n p)) (fun p1 c1 => pEvL u n A k p1 (c ++ c1 ++ [-102])) else (true, p, c)).2.1 ∧ (if txT u n p = 24 then pB (A (txN u n p)) (fun p1 c1 => pEvL u n A k p1 (c ++ c1 ++ [-102])) else (true, p, c)).2.1 ≤ n
    by_cases hT : txT u n p = 24
    · rw [if_pos hT]
      have hN := txN_rng (u := u) (txT_lt (u := u) (n := n) (p := p) (by omega))
      unfold pB
      by_cases hx : (A (txN u n p)).1 = true
      · rw [if_pos hx]
        have hg := hgo _ hx
        intro h
        have := ih _ _ hg.2 h
        exact ⟨Int.le_trans (by omega) this.1, this.2⟩
      · rw [if_neg hx]
        intro h
        exact absurd h Bool.false_ne_true
    · rw [if_neg hT]
      intro _
      exact ⟨Int.le_refl p, hp⟩
theorem pEv_go {u : Int → Int} {n : Int} {A : Int → Bool × Int × List Int} (hgo : pGoA n A) : pGoA n (pEv u n A) := by
  intro p h
  unfold pEv pB at h ⊢
  by_cases hx : (A p).1 = true
  · rw [if_pos hx] at h ⊢
    have hg := hgo _ hx
    have := pEvL_go hgo _ _ _ hg.2 h
    exact ⟨Int.lt_of_lt_of_le hg.1 this.1, this.2⟩
  · rw [if_neg hx] at h
    exact absurd h Bool.false_ne_true
theorem pSoL_go {u : Int → Int} {n : Int} {A : Int → Bool × Int × List Int} (hgo : pGoA n A) : ∀ (k : Nat) (p : Int) (c : List Int), p ≤ n → (pSoL u n A k p c).1 = true → p ≤ (pSoL u n A k p c).2.1 ∧ (pSoL u n A k p c).2.1 ≤ n := by
  intro k
  induction k with
  | zero => intro p c hp _; exact ⟨Int.le_refl p, hp⟩
  | succ k ih =>
    intro p c hp
    show (if txT u n p = 23 then pB (pEv u n A (txN u n p)) (fun p1 c1 => pSoL u n A k p1 (c ++ c1 ++ [-103])) else (true, p, c)).1 = true → p ≤ (if txT u n p = 23 then pB (pEv u n A (txN u n p)) (fun p1 c1 => pSoL u n A k p1 (c ++ c1 ++ [-103])) else (true, p, c)).2.1 ∧ (if txT u n p = 23 then pB (pEv u n A (txN u n p)) (fun p1 c1 => pSoL u n A k p1 (c ++ c1 ++ [-103])) else (true, p, c)).2.1 ≤ n
    by_cases hT : txT u n p = 23
    · rw [if_pos hT]
      have hN := txN_rng (u := u) (txT_lt (u := u) (n := n) (p := p) (by omega))
      unfold pB
      by_cases hx : (pEv u n A (txN u n p)).1 = true
      · rw [if_pos hx]
        have hg := pEv_go hgo _ hx
        intro h
        have := ih _ _ hg.2 h
        exact ⟨Int.le_trans (by omega) this.1, this.2⟩
      · rw [if_neg hx]
        intro h
        exact absurd h Bool.false_ne_true
    · rw [if_neg hT]
      intro _
      exact ⟨Int.le_refl p, hp⟩
theorem pSo_go {u : Int → Int} {n : Int} {A : Int → Bool × Int × List Int} (hgo : pGoA n A) : pGoA n (pSo u n A) := by
  intro p h
  unfold pSo pB at h ⊢
  by_cases hx : (pEv u n A p).1 = true
  · rw [if_pos hx] at h ⊢
    have hg := pEv_go hgo _ hx
    have := pSoL_go hgo _ _ _ hg.2 h
    exact ⟨Int.lt_of_lt_of_le hg.1 this.1, this.2⟩
  · rw [if_neg hx] at h
    exact absurd h Bool.false_ne_true
theorem XI_13 {f : Int → Int → Int} {g u : Int → Int} {n : Int} {φ : Int → Int} {D D2 p : Int} (h : XI f g u n φ D p) : XI (zup f 1464 13 D2) g u n φ D2 p := by
  obtain ⟨a, b, c, e, i, j, k⟩ := h
  exact ⟨RT_ft zFT_13 a, XF_ft zFT_13 b, (zup_nk (by decide)).trans c, by rw [zup_nk (by decide)]; exact e, by rw [zup_nk (by decide)]; exact i, by rw [zup_nk (by decide)]; exact j, zupE rfl rfl⟩
theorem xl_every {q : Int × (Int → Int)} {d e : Nat} {t : (Int → Int) × Nat × Nat × Nat × (Int → Int → Bool)} {g u φ : Int → Int} {n D r : Int} {A : Int → Bool × Int × List Int} (hA : XAt q t g u φ n A D (e + 8) r) (hgo : pGoA n A) (r0 : 0 ≤ r) : ∀ (k : Nat) (p v : Int) (c : List Int) (f : Int → Int → Int) (w0 : zV), XI f g u n φ D p → n ≤ p + k → (v = 0 ∨ v = 1) → (∀ st, zev φ c st = v :: st) → ∃ v2 f2, zD (true, q) (d + (e + 8) + 1) zc_M_every (zat zc_M_every 3) [(20, 1464, 0), (0, v, 0), w0] [] (zrow f 1465 g, t) = some ((0, v2, 0), (zrow f2 1465 g, t)) ∧ XO f f2 u n r φ (pEvL u n A k p c) v2 ∧ (v2 = 0 ∨ v2 = 1) := by
  have last : ∀ (p v : Int) (c : List Int) (f : Int → Int → Int) (w0 : zV), XI f g u n φ D p → txT u n p ≠ 24 → (v = 0 ∨ v = 1) → (∀ st, zev φ c st = v :: st) → ∃ v2 f2, zD (true, q) (d + (e + 8) + 1) zc_M_every (zat zc_M_every 3) [(20, 1464, 0), (0, v, 0), w0] [] (zrow f 1465 g, t) = some ((0, v2, 0), (zrow f2 1465 g, t)) ∧ XO f f2 u n r φ (true, p, c) v2 ∧ (v2 = 0 ∨ v2 = 1) := by
    intro p v c f w0 h hT hv hc
    have hp := XI_p h
    have hf := h.2.2.1
    obtain ⟨f1, r1, y1, x1, i1⟩ := x_hasI (q := q) (d := d + e + 4) (t := t) (w := 24) (s := 15) h (by decide) (by decide)
    have r1 : zM (true, q) (d + (e + 8)) 63 [(20, 1464, 0), (6, 15, 0)] (zrow f 1465 g, t) = _ := r1
    rw [if_neg hT] at r1 i1
    refine ⟨v, f1, ?_, ⟨y1, i1.2.2.2.1, fun _ => ⟨i1.2.2.1, x1, i1.2.2.2.2.1, i1.2.2.2.2.2.1, hc⟩, fun z => absurd rfl z⟩, hv⟩
    rw [zb_M_every_3]
    simp (disch := omega) only [zrow_ne]
    rw [if_neg (by omega), zb_M_every_7, r1, zK_i, zb_M_every_10, if_pos rfl, zb_M_every_23, zG2 (by omega) (by omega)]
  intro k
  induction k with
  | zero =>
    intro p v c f w0 h hk hv hc
    refine last p v c f w0 h (fun z => ?_) hv hc
    have := txT_lt (u := u) (n := n) (p := p) (by omega)
    omega
  | succ k ih =>
    intro p v c f w0 h hk hv hc
    show ∃ v2 f2, _ ∧ XO f f2 u n r φ (if txT u n p = 24 then pB (A (txN u n p)) (fun p1 c1 => pEvL u n A k p1 (c ++ c1 ++ [-102])) else (true, p, c)) v2 ∧ (v2 = 0 ∨ v2 = 1)
    by_cases hT : txT u n p = 24
    · have hf := h.2.2.1
      obtain ⟨f1, r1, y1, x1, i1⟩ := x_hasI (q := q) (d := d + e + 4) (t := t) (w := 24) (s := 15) h (by decide) (by decide)
      have r1 : zM (true, q) (d + (e + 8)) 63 [(20, 1464, 0), (6, 15, 0)] (zrow f 1465 g, t) = _ := r1
      rw [if_pos hT] at r1
      rw [if_pos hT] at i1 ⊢
      obtain ⟨w, f3, r3, o3, hw⟩ := hA d f1 _ i1
      have o3' : XO f f3 u n r φ (A (txN u n p)) w := XO_pre y1 x1 o3
      have hpn := txT_lt (u := u) (n := n) (p := p) (by omega)
      have hN := txN_rng (u := u) hpn
      have run : ∃ w1, zD (true, q) (d + (e + 8) + 1) zc_M_every (zat zc_M_every 3) [(20, 1464, 0), (0, v, 0), w0] [] (zrow f 1465 g, t) = zD (true, q) (d + (e + 8) + 1) zc_M_every (zat zc_M_every 3) [(20, 1464, 0), (0, zand v w, 0), w1] [] (zrow f3 1465 g, t) := by
        refine ⟨(0, w, 0), ?_⟩
        rw [zb_M_every_3]
        simp (disch := omega) only [zrow_ne]
        rw [if_neg (by omega), zb_M_every_7, r1, zK_i, zb_M_every_10, if_neg (by decide), zb_M_every_11, r3, zK_i, zb_M_every_13]
        rcases hv with rfl | rfl
        · rw [if_pos rfl, zb_M_every_20, show zand 0 w = 0 by rcases hw with rfl | rfl <;> decide]
        · rw [if_neg (by decide), zb_M_every_16]
          rcases hw with rfl | rfl
          · rw [if_pos rfl, zb_M_every_20, show zand 1 0 = 0 by decide]
          · rw [if_neg (by decide), zb_M_every_18, show zand 1 1 = 1 by decide]
      obtain ⟨w1, run⟩ := run
      have hj : zand v w = 0 ∨ zand v w = 1 := by
        rcases hv with rfl | rfl <;> rcases hw with rfl | rfl <;> decide
      rw [run]
      unfold pB
      by_cases hx : (A (txN u n p)).1 = true
      · rw [if_pos hx]
        have hg := hgo _ hx
        have i4 := XO_ok h o3' hx
        obtain ⟨v2, f4, r4, o4, b4⟩ := ih _ (zand v w) (c ++ (A (txN u n p)).2.2 ++ [-102]) f3 w1 i4 (by omega) hj (fun st => by
          rw [zev_2 (by decide) hc (o3'.2.2.1 hx).2.2.2.2 st]
          rfl)
        exact ⟨v2, f4, r4, XO_pre o3'.1 (o3'.2.2.1 hx).2.1 o4, b4⟩
      · rw [if_neg hx]
        have := o3'.2.2.2 hx
        refine ⟨zand v w, f3, ?_, XO_fail (Int.le_refl r) o3' hx Bool.false_ne_true rfl, hj⟩
        rw [zb_M_every_3]
        simp (disch := omega) only [zrow_ne]
        rw [if_pos (by omega), zb_M_every_23, zG2 (by omega) (by omega)]
    · rw [if_neg hT]
      exact last p v c f w0 h hT hv hc
theorem x_every {q : Int × (Int → Int)} {d e : Nat} {t : (Int → Int) × Nat × Nat × Nat × (Int → Int → Bool)} {g u φ : Int → Int} {n D r : Int} {A : Int → Bool × Int × List Int} (hA : XAt q t g u φ n A D (e + 8) r) (hgo : pGoA n A) (r0 : 0 ≤ r) {f : Int → Int → Int} {p : Int} (h : XI f g u n φ D p) : ∃ v f2, zM (true, q) (d + (e + 8) + 1) 71 [(20, 1464, 0)] (zrow f 1465 g, t) = some ((0, v, 0), (zrow f2 1465 g, t)) ∧ XO f f2 u n r φ (pEv u n A p) v ∧ (v = 0 ∨ v = 1) := by
  obtain ⟨w, f3, r3, o3, hw⟩ := hA d f p h
  rw [ze_M_every, zb_M_every_0, r3, zK_i, zb_M_every_2]
  unfold pEv pB
  by_cases hx : (A p).1 = true
  · rw [if_pos hx]
    have i4 := XO_ok h o3 hx
    have hp4 := XI_p i4
    obtain ⟨v2, f4, r4, o4, b4⟩ := xl_every (d := d) hA hgo r0 (n - (A p).2.1).toNat _ w (A p).2.2 f3 (2, 0, 0) i4 (by omega) hw (o3.2.2.1 hx).2.2.2.2
    exact ⟨v2, f4, r4, XO_pre o3.1 (o3.2.2.1 hx).2.1 o4, b4⟩
  · rw [if_neg hx]
    have := o3.2.2.2 hx
    refine ⟨w, f3, ?_, XO_fail (Int.le_refl r) o3 hx Bool.false_ne_true rfl, hw⟩
    rw [zb_M_every_3]
    simp (disch := omega) only [zrow_ne]
    rw [if_pos (by omega), zb_M_every_23, zG2 (by omega) (by omega)]
theorem xl_some {q : Int × (Int → Int)} {d e : Nat} {t : (Int → Int) × Nat × Nat × Nat × (Int → Int → Bool)} {g u φ : Int → Int} {n D r : Int} {A : Int → Bool × Int × List Int} (hA : XAt q t g u φ n A D (e + 8) r) (hgo : pGoA n A) (r0 : 0 ≤ r) : ∀ (k : Nat) (p v : Int) (c : List Int) (f : Int → Int → Int) (w0 : zV), XI f g u n φ D p → n ≤ p + k → (v = 0 ∨ v = 1) → (∀ st, zev φ c st = v :: st) → ∃ v2 f2, zD (true, q) (d + (e + 8) + 2) zc_M_some (zat zc_M_some 3) [(20, 1464, 0), (0, v, 0), w0] [] (zrow f 1465 g, t) = some ((0, v2, 0), (zrow f2 1465 g, t)) ∧ XO f f2 u n r φ (pSoL u n A k p c) v2 ∧ (v2 = 0 ∨ v2 = 1) := by
  have last : ∀ (p v : Int) (c : List Int) (f : Int → Int → Int) (w0 : zV), XI f g u n φ D p → txT u n p ≠ 23 → (v = 0 ∨ v = 1) → (∀ st, zev φ c st = v :: st) → ∃ v2 f2, zD (true, q) (d + (e + 8) + 2) zc_M_some (zat zc_M_some 3) [(20, 1464, 0), (0, v, 0), w0] [] (zrow f 1465 g, t) = some ((0, v2, 0), (zrow f2 1465 g, t)) ∧ XO f f2 u n r φ (true, p, c) v2 ∧ (v2 = 0 ∨ v2 = 1) := by
    intro p v c f w0 h hT hv hc
    have hp := XI_p h
    have hf := h.2.2.1
    obtain ⟨f1, r1, y1, x1, i1⟩ := x_hasI (q := q) (d := d + e + 5) (t := t) (w := 23) (s := 16) h (by decide) (by decide)
    have r1 : zM (true, q) (d + (e + 8) + 1) 63 [(20, 1464, 0), (6, 16, 0)] (zrow f 1465 g, t) = _ := r1
    rw [if_neg hT] at r1 i1
    refine ⟨v, f1, ?_, ⟨y1, i1.2.2.2.1, fun _ => ⟨i1.2.2.1, x1, i1.2.2.2.2.1, i1.2.2.2.2.2.1, hc⟩, fun z => absurd rfl z⟩, hv⟩
    rw [zb_M_some_3]
    simp (disch := omega) only [zrow_ne]
    rw [if_neg (by omega), zb_M_some_7, r1, zK_i, zb_M_some_10, if_pos rfl, zb_M_some_23, zG2 (by omega) (by omega)]
  intro k
  induction k with
  | zero =>
    intro p v c f w0 h hk hv hc
    refine last p v c f w0 h (fun z => ?_) hv hc
    have := txT_lt (u := u) (n := n) (p := p) (by omega)
    omega
  | succ k ih =>
    intro p v c f w0 h hk hv hc
    show ∃ v2 f2, _ ∧ XO f f2 u n r φ (if txT u n p = 23 then pB (pEv u n A (txN u n p)) (fun p1 c1 => pSoL u n A k p1 (c ++ c1 ++ [-103])) else (true, p, c)) v2 ∧ (v2 = 0 ∨ v2 = 1)
    by_cases hT : txT u n p = 23
    · have hf := h.2.2.1
      obtain ⟨f1, r1, y1, x1, i1⟩ := x_hasI (q := q) (d := d + e + 5) (t := t) (w := 23) (s := 16) h (by decide) (by decide)
      have r1 : zM (true, q) (d + (e + 8) + 1) 63 [(20, 1464, 0), (6, 16, 0)] (zrow f 1465 g, t) = _ := r1
      rw [if_pos hT] at r1
      rw [if_pos hT] at i1 ⊢
      obtain ⟨w, f3, r3, o3, hw⟩ := x_every (d := d) hA hgo r0 i1
      have o3' : XO f f3 u n r φ (pEv u n A (txN u n p)) w := XO_pre y1 x1 o3
      have hpn := txT_lt (u := u) (n := n) (p := p) (by omega)
      have hN := txN_rng (u := u) hpn
      have run : ∃ w1, zD (true, q) (d + (e + 8) + 2) zc_M_some (zat zc_M_some 3) [(20, 1464, 0), (0, v, 0), w0] [] (zrow f 1465 g, t) = zD (true, q) (d + (e + 8) + 2) zc_M_some (zat zc_M_some 3) [(20, 1464, 0), (0, zor v w, 0), w1] [] (zrow f3 1465 g, t) := by
        refine ⟨(0, w, 0), ?_⟩
        rw [zb_M_some_3]
        simp (disch := omega) only [zrow_ne]
        rw [if_neg (by omega), zb_M_some_7, r1, zK_i, zb_M_some_10, if_neg (by decide), zb_M_some_11, r3, zK_i, zb_M_some_13]
        rcases hv with rfl | rfl
        · rw [if_neg (by decide), zb_M_some_16]
          rcases hw with rfl | rfl
          · rw [if_pos rfl, zb_M_some_20, show zor 0 0 = 0 by decide]
          · rw [if_neg (by decide), zb_M_some_18, show zor 0 1 = 1 by decide]
        · rw [if_pos (by decide), zb_M_some_18, show zor 1 w = 1 by rcases hw with rfl | rfl <;> decide]
      obtain ⟨w1, run⟩ := run
      have hj : zor v w = 0 ∨ zor v w = 1 := by
        rcases hv with rfl | rfl <;> rcases hw with rfl | rfl <;> decide
      rw [run]
      unfold pB
      by_cases hx : (pEv u n A (txN u n p)).1 = true
      · rw [if_pos hx]
        have hg := pEv_go hgo _ hx
        have i4 := XO_ok h o3' hx
        obtain ⟨v2, f4, r4, o4, b4⟩ := ih _ (zor v w) (c ++ (pEv u n A (txN u n p)).2.2 ++ [-103]) f3 w1 i4 (by omega) hj (fun st => by
          rw [zev_2 (by decide) hc (o3'.2.2.1 hx).2.2.2.2 st]
          rfl)
        exact ⟨v2, f4, r4, XO_pre o3'.1 (o3'.2.2.1 hx).2.1 o4, b4⟩
      · rw [if_neg hx]
        have := o3'.2.2.2 hx
        refine ⟨zor v w, f3, ?_, XO_fail (Int.le_refl r) o3' hx Bool.false_ne_true rfl, hj⟩
        rw [zb_M_some_3]
        simp (disch := omega) only [zrow_ne]
        rw [if_pos (by omega), zb_M_some_23, zG2 (by omega) (by omega)]
    · rw [if_neg hT]
      exact last p v c f w0 h hT hv hc
theorem x_some {q : Int × (Int → Int)} {d e : Nat} {t : (Int → Int) × Nat × Nat × Nat × (Int → Int → Bool)} {g u φ : Int → Int} {n D r : Int} {A : Int → Bool × Int × List Int} (hA : XAt q t g u φ n A D (e + 8) r) (hgo : pGoA n A) (r0 : 0 ≤ r) {f : Int → Int → Int} {p : Int} (h : XI f g u n φ D p) : ∃ v f2, zM (true, q) (d + (e + 8) + 2) 72 [(20, 1464, 0)] (zrow f 1465 g, t) = some ((0, v, 0), (zrow f2 1465 g, t)) ∧ XO f f2 u n r φ (pSo u n A p) v ∧ (v = 0 ∨ v = 1) := by
  obtain ⟨w, f3, r3, o3, hw⟩ := x_every (d := d) hA hgo r0 h
  rw [ze_M_some, zb_M_some_0, r3, zK_i, zb_M_some_2]
  unfold pSo pB
  by_cases hx : (pEv u n A p).1 = true
  · rw [if_pos hx]
    have i4 := XO_ok h o3 hx
    have hp4 := XI_p i4
    obtain ⟨v2, f4, r4, o4, b4⟩ := xl_some (d := d) hA hgo r0 (n - (pEv u n A p).2.1).toNat _ w (pEv u n A p).2.2 f3 (2, 0, 0) i4 (by omega) hw (o3.2.2.1 hx).2.2.2.2
    exact ⟨v2, f4, r4, XO_pre o3.1 (o3.2.2.1 hx).2.1 o4, b4⟩
  · rw [if_neg hx]
    have := o3.2.2.2 hx
    refine ⟨w, f3, ?_, XO_fail (Int.le_refl r) o3 hx Bool.false_ne_true rfl, hw⟩
    rw [zb_M_some_3]
    simp (disch := omega) only [zrow_ne]
    rw [if_pos (by omega), zb_M_some_23, zG2 (by omega) (by omega)]
