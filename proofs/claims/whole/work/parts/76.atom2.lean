/-! ## the reference's atom -/
theorem pSumL_go {u : Int → Int} {n : Int} : ∀ (k : Nat) (p : Int) (c : List Int), p ≤ n → (pSumL u n k p c).1 = true → p ≤ (pSumL u n k p c).2.1 ∧ (pSumL u n k p c).2.1 ≤ n := by
  intro k
  induction k with
  | zero => intro p c hp _; exact ⟨Int.le_refl p, hp⟩
  | succ k ih =>
    intro p c hp
    show (if txT u n p = 8 then pB (pPart u n (txN u n p)) (fun p1 c1 => pSumL u n k p1 (c ++ c1 ++ [-106])) else (true, p, c)).1 = true → p ≤ (if txT u n p = 8 then pB (pPart u n (txN u n p)) (fun p1 c1 => pSumL u n k p1 (c ++ c1 ++ [-106])) else (true, p, c)).2.1 ∧ (if txT u n p = 8 then pB (pPart u n (txN u n p)) (fun p1 c1 => pSumL u n k p1 (c ++ c1 ++ [-106])) else (true, p, c)).2.1 ≤ n
    by_cases hT : txT u n p = 8
    · rw [if_pos hT]
      have hN := txN_rng (u := u) (txT_lt (u := u) (n := n) (p := p) (by omega))
      unfold pB
      by_cases hx : (pPart u n (txN u n p)).1 = true
      · rw [if_pos hx]
        have hg := pPart_go hx
        intro h
        have := ih _ _ hg.2 h
        exact ⟨Int.le_trans (by omega) this.1, this.2⟩
      · rw [if_neg hx]
        intro h
        exact absurd h Bool.false_ne_true
    · rw [if_neg hT]
      intro _
      exact ⟨Int.le_refl p, hp⟩
theorem pCmp_go {u : Int → Int} {n : Int} : pGoA n (pCmp u n) := by
  have hs : pGoA n (pSum u n) := by
    intro p h
    unfold pSum pB at h ⊢
    by_cases hx : (pPart u n p).1 = true
    · rw [if_pos hx] at h ⊢
      have hg := pPart_go hx
      have := pSumL_go _ _ _ hg.2 h
      exact ⟨Int.lt_of_lt_of_le hg.1 this.1, this.2⟩
    · rw [if_neg hx] at h
      exact absurd h Bool.false_ne_true
  intro p h
  unfold pCmp pB at h ⊢
  by_cases hx : (pSum u n p).1 = true
  · rw [if_pos hx] at h ⊢
    have hg := hs _ hx
    have key : (if txT u n (pSum u n p).2.1 = 6 ∨ txT u n (pSum u n p).2.1 = 7 then (if (pSum u n (txN u n (pSum u n p).2.1)).1 = true then (true, (pSum u n (txN u n (pSum u n p).2.1)).2.1, (pSum u n p).2.2 ++ (pSum u n (txN u n (pSum u n p).2.1)).2.2 ++ [if txT u n (pSum u n p).2.1 = 6 then -104 else -105]) else (false, (pSum u n (txN u n (pSum u n p).2.1)).2.1, [])) else pNo (pSum u n p).2.1).1 = true → p < (if txT u n (pSum u n p).2.1 = 6 ∨ txT u n (pSum u n p).2.1 = 7 then (if (pSum u n (txN u n (pSum u n p).2.1)).1 = true then (true, (pSum u n (txN u n (pSum u n p).2.1)).2.1, (pSum u n p).2.2 ++ (pSum u n (txN u n (pSum u n p).2.1)).2.2 ++ [if txT u n (pSum u n p).2.1 = 6 then (-104 : Int) else -105]) else (false, (pSum u n (txN u n (pSum u n p).2.1)).2.1, [])) else pNo (pSum u n p).2.1).2.1 ∧ (if txT u n (pSum u n p).2.1 = 6 ∨ txT u n (pSum u n p).2.1 = 7 then (if (pSum u n (txN u n (pSum u n p).2.1)).1 = true then (true, (pSum u n (txN u n (pSum u n p).2.1)).2.1, (pSum u n p).2.2 ++ (pSum u n (txN u n (pSum u n p).2.1)).2.2 ++ [if txT u n (pSum u n p).2.1 = 6 then (-104 : Int) else -105]) else (false, (pSum u n (txN u n (pSum u n p).2.1)).2.1, [])) else pNo (pSum u n p).2.1).2.1 ≤ n := by
      generalize (pSum u n p).2.1 = p1 at *
      by_cases hT : txT u n p1 = 6 ∨ txT u n p1 = 7
      · rw [if_pos hT]
        have hN := txN_rng (u := u) (txT_lt (u := u) (n := n) (p := p1) (by omega))
        by_cases hx2 : (pSum u n (txN u n p1)).1 = true
        · rw [if_pos hx2]
          intro _
          have h2 := hs _ hx2
          show p < (pSum u n (txN u n p1)).2.1 ∧ (pSum u n (txN u n p1)).2.1 ≤ n
          omega
        · rw [if_neg hx2]
          exact fun z => absurd z Bool.false_ne_true
      · rw [if_neg hT]
        exact fun z => absurd z Bool.false_ne_true
    exact key h
  · rw [if_neg hx] at h
    exact absurd h Bool.false_ne_true
theorem pPlain_go {u : Int → Int} {n : Int} : pGoA n (pPlain u n) := by
  intro p h
  unfold pPlain at h ⊢
  by_cases c : 7 ≤ zWfc (txT u n p)
  · rw [if_pos c]
    have h0 : txT u n p ≠ 0 := fun z => by
      rw [z] at c
      exact absurd c (by decide)
    have hl := txN_rng (u := u) (txT_lt h0)
    show p < txN u n p ∧ txN u n p ≤ n
    omega
  · rw [if_neg c] at h ⊢
    exact pCmp_go p h
theorem pAt_go {u : Int → Int} {n : Int} : ∀ r : Nat, pGoA n (pAt u n r) := by
  intro r
  induction r with
  | zero =>
    intro p
    show (if txT u n p = 25 ∨ txT u n p = 4 then pNo p else pPlain u n p).1 = true → p < (if txT u n p = 25 ∨ txT u n p = 4 then pNo p else pPlain u n p).2.1 ∧ (if txT u n p = 25 ∨ txT u n p = 4 then pNo p else pPlain u n p).2.1 ≤ n
    by_cases c : txT u n p = 25 ∨ txT u n p = 4
    · rw [if_pos c]
      exact fun z => absurd z Bool.false_ne_true
    · rw [if_neg c]
      exact pPlain_go p
  | succ r ih =>
    intro p h
    have e : pAt u n (r + 1) p = if txT u n p = 25 then (if (pAt u n r (txN u n p)).1 = true then (true, (pAt u n r (txN u n p)).2.1, (pAt u n r (txN u n p)).2.2 ++ [-101]) else (false, (pAt u n r (txN u n p)).2.1, [])) else if txT u n p = 4 then (if (pSo u n (pAt u n r) (txN u n p)).1 = true then (if txT u n (pSo u n (pAt u n r) (txN u n p)).2.1 = 5 then (true, txN u n (pSo u n (pAt u n r) (txN u n p)).2.1, (pSo u n (pAt u n r) (txN u n p)).2.2) else pNo (pSo u n (pAt u n r) (txN u n p)).2.1) else (false, (pSo u n (pAt u n r) (txN u n p)).2.1, [])) else pPlain u n p := rfl
    rw [e] at h ⊢
    by_cases c1 : txT u n p = 25
    · rw [if_pos c1] at h ⊢
      have hN := txN_rng (u := u) (txT_lt (u := u) (n := n) (p := p) (by omega))
      by_cases hx : (pAt u n r (txN u n p)).1 = true
      · rw [if_pos hx]
        have := ih _ hx
        show p < (pAt u n r (txN u n p)).2.1 ∧ (pAt u n r (txN u n p)).2.1 ≤ n
        omega
      · rw [if_neg hx] at h
        exact absurd h Bool.false_ne_true
    · rw [if_neg c1] at h ⊢
      by_cases c2 : txT u n p = 4
      · rw [if_pos c2] at h ⊢
        have hN := txN_rng (u := u) (txT_lt (u := u) (n := n) (p := p) (by omega))
        by_cases hx : (pSo u n (pAt u n r) (txN u n p)).1 = true
        · rw [if_pos hx] at h ⊢
          have hg := pSo_go ih _ hx
          generalize (pSo u n (pAt u n r) (txN u n p)).2.1 = p1 at *
          by_cases c5 : txT u n p1 = 5
          · rw [if_pos c5]
            have hN1 := txN_rng (u := u) (txT_lt (u := u) (n := n) (p := p1) (by omega))
            show p < txN u n p1 ∧ txN u n p1 ≤ n
            omega
          · rw [if_neg c5] at h
            exact absurd h Bool.false_ne_true
        · rw [if_neg hx] at h
          exact absurd h Bool.false_ne_true
      · rw [if_neg c2] at h ⊢
        exact pPlain_go p h
theorem x_atom {q : Int × (Int → Int)} {t : (Int → Int) × Nat × Nat × Nat × (Int → Int → Bool)} {g u φ : Int → Int} {n : Int} : ∀ r : Nat, r ≤ 6 → XAt q t g u φ n (pAt u n r) (6 - r) (3 * r + 8) r := by
  intro r
  induction r with
  | zero =>
    intro _ d f p h
    have hp := XI_p h
    have hf := h.2.2.1
    have h13 := h.2.2.2.2.2.2
    have hh := x_here (q := q) (d := d + 5) (t := t) h.1 h.2.2.2.1 h.2.2.2.2.1 h.2.2.2.2.2.1
    have h0 : XI (zup f 1464 11 p) g u n φ (6 - ((0 : Nat) : Int)) p := by
      have := XI_11 h hp.1 hp.2.1
      rw [hp.2.2.2] at this
      exact this
    obtain ⟨f1, r1, y1, x1, i1⟩ := x_hasI (q := q) (d := d + 3) (t := t) (w := 25) (s := 4) h0 (by decide) (by decide)
    have z1 : zFT f f1 := zFT_trans zFT_11 y1
    have t1 : f1 1464 13 = f 1464 13 := x1.trans (zup_nk (by decide))
    show ∃ v f2, zM (true, q) (d + 8) 70 [(20, 1464, 0)] (zrow f 1465 g, t) = _ ∧ XO f f2 u n ((0 : Nat) : Int) φ (if txT u n p = 25 ∨ txT u n p = 4 then pNo p else pPlain u n p) v ∧ _
    rw [ze_M_atom, zb_M_atom_0]
    simp (disch := omega) only [zrow_ne]
    rw [if_pos hf, zb_M_atom_6, hh, zK_i, zb_M_atom_8, r1, zK_i, zb_M_atom_12]
    have bad : ∀ (f9 : Int → Int → Int) (x2 : Int), XI f9 g u n φ (6 - ((0 : Nat) : Int)) (txS u n (f9 1464 11)) → zFT f f9 → ∃ v f2, zD (true, q) (d + 8) zc_M_atom (zat zc_M_atom 22) [(20, 1464, 0), (0, p, 0), (0, x2, 0), (2, 0, 0)] [] (zrow f9 1465 g, t) = some ((0, v, 0), (zrow f2 1465 g, t)) ∧ XO f f2 u n ((0 : Nat) : Int) φ (pNo p) v ∧ (v = 0 ∨ v = 1) := by
      intro f9 x2 i9 z9
      have h9 := i9.2.2.2.2.2.2
      rw [zb_M_atom_22]
      simp (disch := omega) only [zrow_ne]
      rw [if_neg (by omega), zb_M_atom_26, x_wrong i9.2.2.1, zK_v, zb_M_atom_29, zG2 (by decide) (by decide)]
      refine ⟨0, _, rfl, ⟨zFT_trans z9 zFT_12, by rw [zup_nk (by decide)]; exact i9.2.2.2.1, fun z => absurd z Bool.false_ne_true, fun _ => ⟨zupE rfl rfl, by rw [zup_nk (by decide)]; have := i9.2.2.2.2.1; omega, hp.1⟩⟩, Or.inl rfl⟩
    by_cases c1 : txT u n p = 25
    · rw [if_pos c1] at i1
      rw [if_pos c1, if_pos (by decide), if_pos (Or.inl c1)]
      refine bad f1 1 ?_ z1
      have := i1.2.2.2.2.2.1
      rw [this]
      exact i1
    · rw [if_neg c1] at i1
      rw [if_neg c1, if_neg (by decide), zb_M_atom_15]
      obtain ⟨r2, i2, _⟩ := x_signI (q := q) (d := d + 5) (t := t) (w := 4) (c := 40) i1 (by decide) (by decide) (by decide)
      rw [r2, zK_i, zb_M_atom_18]
      by_cases c2 : txT u n p = 4
      · rw [if_pos c2, if_pos (by decide), if_pos (Or.inr c2)]
        refine bad _ 0 ?_ (zFT_trans z1 zFT_11)
        have := i2.2.2.2.2.2.1
        rw [this]
        exact i2
      · rw [if_neg c2, if_neg (by decide), if_neg (fun z => z.elim c1 c2), zb_M_atom_19]
        obtain ⟨v, f3, r3, o3, b3⟩ := x_plain (q := q) (d := d) (t := t) i2
        rw [r3, zK_i, zb_M_atom_21, zG2 (by omega) (by omega)]
        exact ⟨v, f3, rfl, XO_pre (zFT_trans z1 zFT_11) ((zup_nk (by decide)).trans t1) o3, b3⟩
  | succ r ih =>
    intro hr6 d f p h
    have hA := ih (by omega)
    have hp := XI_p h
    have hf := h.2.2.1
    have h13 := h.2.2.2.2.2.2
    have hh := x_here (q := q) (d := d + 3 * r + 8) (t := t) h.1 h.2.2.2.1 h.2.2.2.2.1 h.2.2.2.2.2.1
    have h0 : XI (zup f 1464 11 p) g u n φ (6 - ((r + 1 : Nat) : Int)) p := by
      have := XI_11 h hp.1 hp.2.1
      rw [hp.2.2.2] at this
      exact this
    obtain ⟨f1, r1, y1, x1, i1⟩ := x_hasI (q := q) (d := d + 3 * r + 6) (t := t) (w := 25) (s := 4) h0 (by decide) (by decide)
    have z1 : zFT f f1 := zFT_trans zFT_11 y1
    have t1 : f1 1464 13 = f 1464 13 := x1.trans (zup_nk (by decide))
    have ed : d + (3 * (r + 1) + 8) = d + 3 * r + 10 + 1 := by omega
    have e : pAt u n (r + 1) p = if txT u n p = 25 then (if (pAt u n r (txN u n p)).1 = true then (true, (pAt u n r (txN u n p)).2.1, (pAt u n r (txN u n p)).2.2 ++ [-101]) else (false, (pAt u n r (txN u n p)).2.1, [])) else if txT u n p = 4 then (if (pSo u n (pAt u n r) (txN u n p)).1 = true then (if txT u n (pSo u n (pAt u n r) (txN u n p)).2.1 = 5 then (true, txN u n (pSo u n (pAt u n r) (txN u n p)).2.1, (pSo u n (pAt u n r) (txN u n p)).2.2) else pNo (pSo u n (pAt u n r) (txN u n p)).2.1) else (false, (pSo u n (pAt u n r) (txN u n p)).2.1, [])) else pPlain u n p := rfl
    rw [e, ed, ze_M_atom, zb_M_atom_0]
    simp (disch := omega) only [zrow_ne]
    rw [if_pos hf, zb_M_atom_6, hh, zK_i, zb_M_atom_8, r1, zK_i, zb_M_atom_12]
    have D1 : (6 : Int) - ((r + 1 : Nat) : Int) + 1 = 6 - (r : Int) := by omega
    by_cases c1 : txT u n p = 25
    · rw [if_pos c1] at i1
      have g13 := i1.2.2.2.2.2.2
      obtain ⟨v, f3, r3, o3, b3⟩ := hA (d + 2) _ _ (XI_13 (D2 := 6 - (r : Int)) i1)
      have r3 : zM (true, q) (d + 3 * r + 10) 70 [(20, 1464, 0)] (zrow (zup f1 1464 13 (6 - (r : Int))) 1465 g, t) = some ((0, v, 0), (zrow f3 1465 g, t)) := by
        rw [show d + 3 * r + 10 = d + 2 + (3 * r + 8) by omega]
        exact r3
      rw [if_pos c1, if_pos (by decide), if_pos c1, zb_M_atom_22]
      simp (disch := omega) only [zrow_ne]
      rw [if_pos (by omega), zb_M_atom_31, if_neg (by decide)]
      simp (disch := omega) only [zrow_ne, zrow_up, g13]
      rw [zw_id (by omega) (by omega), D1, zb_M_atom_41, r3, zK_i, zb_M_atom_43]
      -- the end
      have o3f : zFT f f3 := zFT_trans z1 (zFT_trans zFT_13 o3.1)
      have fin : ∀ v', v' = zw (1 - v) → XO f (zup f3 1464 13 (zw (f3 1464 13 - 1))) u n ((r + 1 : Nat) : Int) φ (if (pAt u n r (txN u n p)).1 = true then (true, (pAt u n r (txN u n p)).2.1, (pAt u n r (txN u n p)).2.2 ++ [-101]) else (false, (pAt u n r (txN u n p)).2.1, [])) v' := by
        intro v' hv'
        by_cases hx : (pAt u n r (txN u n p)).1 = true
        · rw [if_pos hx]
          obtain ⟨m1, m2, m3, m4, m5⟩ := o3.2.2.1 hx
          refine ⟨zFT_trans o3f zFT_13, by rw [zup_nk (by decide)]; exact o3.2.1, fun _ => ⟨by rw [zup_nk (by decide)]; exact m1, ?_, by rw [zup_nk (by decide)]; exact m3, by rw [zup_nk (by decide)]; exact m4, fun st => ?_⟩, fun z => absurd rfl z⟩
          · rw [zupE rfl rfl, m2, zupE rfl rfl, zw_id (by omega) (by omega), h13]
            omega
          · rw [hv']
            exact zev_not m5 st
        · rw [if_neg hx]
          obtain ⟨m1, m2, m3⟩ := o3.2.2.2 hx
          exact ⟨zFT_trans o3f zFT_13, by rw [zup_nk (by decide)]; exact o3.2.1, fun z => absurd z Bool.false_ne_true, fun _ => ⟨by rw [zup_nk (by decide)]; exact m1, by rw [zup_nk (by decide)]; omega, m3⟩⟩
      rcases b3 with rfl | rfl
      · rw [if_neg (by decide), zb_M_atom_44, zG2 (by decide) (by decide)]
        simp (disch := omega) only [zrow_ne, zrow_up]
        exact ⟨1, _, rfl, fin 1 (by decide), Or.inr rfl⟩
      · rw [if_pos (by decide), zb_M_atom_46, zG2 (by decide) (by decide)]
        simp (disch := omega) only [zrow_ne, zrow_up]
        exact ⟨0, _, rfl, fin 0 (by decide), Or.inl rfl⟩
    · rw [if_neg c1] at i1
      rw [if_neg c1, if_neg (by decide), if_neg c1, zb_M_atom_15]
      obtain ⟨r2, i2, j2⟩ := x_signI (q := q) (d := d + 3 * r + 8) (t := t) (w := 4) (c := 40) i1 (by decide) (by decide) (by decide)
      rw [r2, zK_i, zb_M_atom_18]
      by_cases c2 : txT u n p = 4
      · obtain ⟨j3, hpn⟩ := j2 c2
        have g13 := i1.2.2.2.2.2.2
        have hz : zup (zup (zup f1 1464 11 p) 1464 13 (6 - (r : Int))) 1464 11 (p + 1) = zup (zup f1 1464 11 (p + 1)) 1464 13 (6 - (r : Int)) := by
          funext b j
          by_cases ca : b = 1464
          · by_cases c11 : j = 11
            · rw [zupE ca c11, zup_nk (by omega), zupE ca c11]
            · rw [zup_nk c11]
              by_cases c13 : j = 13
              · rw [zupE ca c13, zupE ca c13]
              · rw [zup_nk c13, zup_nk c13, zup_nk c11, zup_nk c11]
          · rw [zup_na ca, zup_na ca, zup_na ca, zup_na ca, zup_na ca]
        have i4 : XI (zup (zup (zup f1 1464 11 p) 1464 13 (6 - (r : Int))) 1464 11 (p + 1)) g u n φ (6 - (r : Int)) (txN u n p) := by
          rw [hz]
          exact XI_13 j3
        obtain ⟨v, f3, r3, o3, b3⟩ := x_some (q := q) (d := d) (e := 3 * r) (t := t) (r := (r : Int)) hA (pAt_go r) (by omega) i4
        have r3 : zM (true, q) (d + 3 * r + 10) 72 [(20, 1464, 0)] (zrow (zup (zup (zup f1 1464 11 p) 1464 13 (6 - (r : Int))) 1464 11 (p + 1)) 1465 g, t) = some ((0, v, 0), (zrow f3 1465 g, t)) := by
          rw [show d + 3 * r + 10 = d + (3 * r + 8) + 2 by omega]
          exact r3
        rw [if_pos c2, if_pos (by decide), if_pos c2, zb_M_atom_22]
        simp (disch := omega) only [zrow_ne, zup_nk, zup_na]
        rw [if_pos (by omega), zb_M_atom_31, if_pos rfl]
        simp (disch := omega) only [zrow_ne, zrow_up, zup_nk, g13]
        rw [zw_id (show -2147483648 ≤ 6 - ((r + 1 : Nat) : Int) + 1 by omega) (by omega), D1, zb_M_atom_49]
        simp (disch := omega) only [zrow_ne, zrow_up, zup_nk, zupE]
        rw [zw_id (show -2147483648 ≤ p + 1 by omega) (by omega), r3, zK_i, zb_M_atom_57]
        simp (disch := omega) only [zrow_ne]
        have o3f : zFT f f3 := zFT_trans z1 (zFT_trans zFT_11 (zFT_trans zFT_13 (zFT_trans zFT_11 o3.1)))
        -- the end
        have fin70 : ∀ (f9 : Int → Int → Int), f9 1464 11 ≤ 1000 → 0 ≤ f9 1464 11 → zD (true, q) (d + 3 * r + 10 + 1) zc_M_atom (zat zc_M_atom 70) [(20, 1464, 0), (0, p, 0), (0, 0, 0), (0, v, 0)] [] (zrow f9 1465 g, t) = some ((0, v, 0), (zrow (zup (zup f9 1464 11 (f9 1464 11 + 1)) 1464 13 (zw (f9 1464 13 - 1))) 1465 g, t)) := by
          intro f9 h9 h90
          rw [zb_M_atom_70, zG2 (by omega) (by omega)]
          simp (disch := omega) only [zrow_ne, zrow_up, zup_nk]
          rw [zw_id (show -2147483648 ≤ f9 1464 11 + 1 by omega) (by omega)]
        have hn4 := hp.2.2.1
        by_cases hx : (pSo u n (pAt u n r) (txN u n p)).1 = true
        · rw [if_pos hx]
          obtain ⟨m1, m2, m3, m4, m5⟩ := o3.2.2.1 hx
          have i5 := XO_ok i4 o3 hx
          have hp5 := XI_p i5
          obtain ⟨r6, i6, j6⟩ := x_signI (q := q) (d := d + 3 * r + 8) (t := t) (w := 5) (c := 41) i5 (by decide) (by decide) (by decide)
          have m13 : f3 1464 13 = 6 - (r : Int) := i5.2.2.2.2.2.2
          generalize (pSo u n (pAt u n r) (txN u n p)).2.1 = p1 at *
          rw [if_neg (by omega), zb_M_atom_62, r6, zK_i, zb_M_atom_65]
          by_cases c5 : txT u n p1 = 5
          · obtain ⟨j7, hp1n⟩ := j6 c5
            rw [if_pos c5, if_pos (by decide), if_pos c5, fin70 _ (by rw [zupE rfl rfl]; omega) (by rw [zupE rfl rfl]; omega), zupE rfl rfl, zup_zup]
            refine ⟨v, _, rfl, ⟨zFT_trans o3f (zFT_trans zFT_11 zFT_13), by rw [zup_nk (by decide), zupE rfl rfl]; omega, fun _ => ⟨by rw [zup_nk (by decide), zup_nk (by decide)]; exact m1, ?_, by rw [zup_nk (by decide), zupE rfl rfl]; omega, ?_, m5⟩, fun z => absurd rfl z⟩, b3⟩
            · rw [zupE rfl rfl, zup_nk (by decide), m13, zw_id (by omega) (by omega), h13]
              omega
            · rw [zup_nk (by decide)]
              exact j7.2.2.2.2.2.1
          · rw [if_neg c5, if_neg (by decide), if_neg c5, zb_M_atom_66]
            simp (disch := omega) only [zrow_ne, zupE]
            rw [x_wrong (by rw [zup_nk (by decide)]; exact m1), zK_v, fin70 _ (by rw [zup_nk (by decide), zupE rfl rfl]; omega) (by rw [zup_nk (by decide), zupE rfl rfl]; omega)]
            refine ⟨v, _, rfl, ⟨zFT_trans o3f (zFT_trans zFT_11 (zFT_trans zFT_12 (zFT_trans zFT_11 zFT_13))), ?_, fun z => absurd z Bool.false_ne_true, fun _ => ⟨?_, ?_, hp5.1⟩⟩, b3⟩
            · rw [zup_nk (by decide), zupE rfl rfl, zup_nk (by decide), zupE rfl rfl]; omega
            · rw [zup_nk (by decide), zup_nk (by decide), zupE rfl rfl]
              rfl
            · rw [zup_nk (by decide), zupE rfl rfl, zup_nk (by decide), zupE rfl rfl]; omega
        · rw [if_neg hx]
          obtain ⟨m1, m2, m3⟩ := o3.2.2.2 hx
          have m0 := o3.2.1
          rw [if_pos (by omega), fin70 f3 (by omega) m0]
          refine ⟨v, _, rfl, ⟨zFT_trans o3f (zFT_trans zFT_11 zFT_13), by rw [zup_nk (by decide), zupE rfl rfl]; omega, fun z => absurd z Bool.false_ne_true, fun _ => ⟨by rw [zup_nk (by decide), zup_nk (by decide)]; exact m1, by rw [zup_nk (by decide), zupE rfl rfl]; omega, m3⟩⟩, b3⟩
      · rw [if_neg c2, if_neg (by decide), if_neg c2, zb_M_atom_19]
        obtain ⟨v, f3, r3, o3, b3⟩ := x_plain (q := q) (d := d + 3 * r + 3) (t := t) i2
        rw [r3, zK_i, zb_M_atom_21, zG2 (by omega) (by omega)]
        exact ⟨v, f3, rfl, XO_r (by omega) (XO_pre (zFT_trans z1 zFT_11) ((zup_nk (by decide)).trans t1) o3), b3⟩
