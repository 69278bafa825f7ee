/-! ## the law -/
theorem zRW_g2 {N : Int} {f : Int → Int → Int} {W : Int} {g h : Int → Int} (e : ∀ j, 0 ≤ j → j < 1310 → j ≠ 1 → j ≠ 2 → h j = g j) (r : zRW N f W g) : zRW N f W h := by
  obtain ⟨⟨a1, a2, a3, a4, a5, a6, a7, j1, j2, j3, j4⟩, r2, ⟨w1, w2, w3, w4⟩, r4, r5⟩ := r
  have h3 := e 3 (by decide) (by decide) (by decide) (by decide)
  have h8 := e 8 (by decide) (by decide) (by decide) (by decide)
  have g8 := w3.2.2.2
  have ex : ∀ o, 0 ≤ o → o < g 3 → zLE g h (10 + 265 * o) := fun o o0 o1 j j0 j1 => e j (by omega) (by omega) (by omega) (by omega)
  refine ⟨⟨?_, ?_, ?_, ?_, ?_, ?_, ?_, ?_, j2, j3, fun ago c b0 b1 c0 c1 => ?_⟩, fun o o0 o1 => ?_, ⟨?_, ?_, zGR_eq (fun j j0 j1 => e j (by omega) (by omega) (by omega) (by omega)) w3, fun o o0 o1 => ?_⟩, ?_, ?_⟩
  · rw [h3]; exact a1
  · rw [e 0 (by decide) (by decide) (by decide) (by decide)]; exact a2
  · rw [e 4 (by decide) (by decide) (by decide) (by decide)]; exact a3
  · rw [e 5 (by decide) (by decide) (by decide) (by decide)]; exact a4
  · rw [e 6 (by decide) (by decide) (by decide) (by decide)]; exact a5
  · rw [e 7 (by decide) (by decide) (by decide) (by decide)]; exact a6
  · rw [e 9 (by decide) (by decide) (by decide) (by decide)]; exact a7
  · rw [h8]; exact j1
  · rw [e _ (by omega) (by omega) (by omega) (by omega)]
    exact j4 ago c b0 (by omega) c0 c1
  · rw [h3] at o1
    rw [e _ (by omega) (by omega) (by omega) (by omega)]
    have hro := (w4 o o0 o1).1.1
    exact zLC_eq (ex o o0 o1) hro (by have := hro.2.2.1; omega) (r2 o o0 o1)
  · rw [h3]; exact w1
  · rw [h3]; exact w2
  · rw [h3] at o1
    rw [e (10 + 265 * o + 15) (by omega) (by omega) (by omega) (by omega), e (10 + 265 * o + 14) (by omega) (by omega) (by omega) (by omega)]
    exact ⟨zLI_eq (ex o o0 o1) (w4 o o0 o1).1, (w4 o o0 o1).2⟩
  · rw [e 0 (by decide) (by decide) (by decide) (by decide)]; exact r4
  · rw [e 7 (by decide) (by decide) (by decide) (by decide)]; exact r5
theorem r_begins {q : Int × (Int → Int)} {d : Nat} {t : (Int → Int) × Nat × Nat × Nat × (Int → Int → Bool)} {h : Int → Int → Int} : zM (true, q) d 59 [(20, 1464, 0)] (h, t) = some ((9, 0, 0), (zup (zup (zup (zup (zup (zup h 1464 12 (-1)) 1464 9 (-1)) 1464 10 (h 1464 8)) 1464 8 0) 1464 11 0) 1464 13 0, t)) := by
  rw [ze_M_begins, zb_M_begins_0]
  show some ((9, 0, 0), (zup (zup (zup (zup (zup (zup h 1464 12 (-1)) 1464 9 (-1)) 1464 10 (zup (zup h 1464 12 (-1)) 1464 9 (-1) 1464 8)) 1464 8 0) 1464 11 0) 1464 13 0, t)) = _
  rw [show zup (zup h 1464 12 (-1)) 1464 9 (-1) 1464 8 = h 1464 8 by rw [zup_nk (by decide), zup_nk (by decide)]]
theorem begins_fr {h : Int → Int → Int} {o k : Int} (hk : o ≠ 1464 ∨ k < 8 ∨ 13 < k) : (zup (zup (zup (zup (zup (zup h 1464 12 (-1)) 1464 9 (-1)) 1464 10 (h 1464 8)) 1464 8 0) 1464 11 0) 1464 13 0) o k = h o k := by
  rw [zup_nka (by omega), zup_nka (by omega), zup_nka (by omega), zup_nka (by omega), zup_nka (by omega), zup_nka (by omega)]
theorem begins_at {h : Int → Int → Int} : (zup (zup (zup (zup (zup (zup h 1464 12 (-1)) 1464 9 (-1)) 1464 10 (h 1464 8)) 1464 8 0) 1464 11 0) 1464 13 0) 1464 8 = 0 ∧ (zup (zup (zup (zup (zup (zup h 1464 12 (-1)) 1464 9 (-1)) 1464 10 (h 1464 8)) 1464 8 0) 1464 11 0) 1464 13 0) 1464 9 = -1 ∧ (zup (zup (zup (zup (zup (zup h 1464 12 (-1)) 1464 9 (-1)) 1464 10 (h 1464 8)) 1464 8 0) 1464 11 0) 1464 13 0) 1464 10 = h 1464 8 ∧ (zup (zup (zup (zup (zup (zup h 1464 12 (-1)) 1464 9 (-1)) 1464 10 (h 1464 8)) 1464 8 0) 1464 11 0) 1464 13 0) 1464 11 = 0 ∧ (zup (zup (zup (zup (zup (zup h 1464 12 (-1)) 1464 9 (-1)) 1464 10 (h 1464 8)) 1464 8 0) 1464 11 0) 1464 13 0) 1464 12 = -1 ∧ (zup (zup (zup (zup (zup (zup h 1464 12 (-1)) 1464 9 (-1)) 1464 10 (h 1464 8)) 1464 8 0) 1464 11 0) 1464 13 0) 1464 13 = 0 := by
  refine ⟨?_, ?_, ?_, ?_, ?_, ?_⟩ <;> simp (disch := omega) only [zup_nk, zupE]
/-- the class reads the tape -/
theorem c_readTape {q : Int × (Int → Int)} {d : Nat} {N : Int} {t : (Int → Int) × Nat × Nat × Nat × (Int → Int → Bool)} {f : Int → Int → Int} {u : Int → Int} (hR : ZR N f f) (hu : ∀ k, 0 ≤ k → k < f 1464 8 → u k = f 1469 k) : ∃ f2 w2, zM (true, q) (d + 8) 36 [(19, 0, 0)] (f, t) = some ((9, 0, 0), (f2, (w2, t.2))) ∧ zTC f2 w2 309 u (f 1464 8) (txS u (f 1464 8) 0) (-1) ∧ f2 0 12 = 0 ∧ (∀ o k, (o ≠ 0 ∨ k ≠ 12) → o ≠ 309 → o ≠ 311 → o ≠ 312 → f2 o k = f o k) := by
  obtain ⟨t1, t2, t3, t4⟩ := hR.2.2.2.1
  obtain ⟨f2, w2, r2, T2, fr2⟩ := c_readFrom (q := q) (d := d) (w := t.1) (t2 := t.2) (r := 1) (n := f 1464 8) (T := 309) (f := f) (u := u) (by decide) t2 t3 (fun i i0 i1 => (t4 i i0 i1).1.trans (hu i i0 i1).symm)
  refine ⟨zup f2 0 12 0, w2, ?_, zTC_up (by decide) T2, zupE rfl rfl, fun o k h0 h1 h2 h3 => (zup_nka (by omega)).trans (fr2 o k (Or.inl h1) h2 h3)⟩
  rw [ze_X_readTape, zb_X_readTape_0]
  show zK _ _ _ _ _ _ (zM (true, q) (d + 7) 35 [(15, 309, 0), (30, 1, 400), (0, f 0 12, 0)] (f, (t.1, t.2))) = _
  rw [t1, r2, zK_v, zb_X_readTape_7]
def laW (T g : Int → Int) (n c : Int) : Int → Int := fun j => if j = 1 then c else if j = 2 then n else if 1310 ≤ j ∧ j < 1310 + n then T (j - 1310) else g j
def laU (T g : Int → Int) (n : Int) : Int → Int := fun k => if 0 ≤ k then (if k < n then T k else g (1310 + k)) else 0
theorem laU_W {T g : Int → Int} {n c : Int} : zTu (laW T g n c) = laU T g n := by
  funext k
  unfold zTu laW laU
  by_cases h : 0 ≤ k
  · rw [if_pos h, if_pos h, if_neg (by omega), if_neg (by omega)]
    by_cases h2 : k < n
    · rw [if_pos (by omega), if_pos h2, show 1310 + k - 1310 = k by omega]
    · rw [if_neg (by omega), if_neg h2]
  · rw [if_neg h, if_neg h]
theorem pLaw_0 {u : Int → Int} : pLaw u 0 = (true, 0, []) := rfl
theorem o_law {q : Int × (Int → Int)} {N : Int} {f : Int → Int → Int} {t : (Int → Int) × Nat × Nat × Nat × (Int → Int → Bool)} (hR : ZR N f f) : zOw q N f t 96 [(19, 0, 0), (31, 1478, 1)] 97 [(20, 1464, 0)] := by
  obtain ⟨r0, r1, r2, ⟨t1, t2, t3, t4⟩, r4, r5, r6⟩ := id hR
  generalize hn : f 1464 8 = n at t1 t2 t3 t4
  generalize hu : laU (f 1469) (f 1465) n = u
  have hu2 : ∀ k, 0 ≤ k → k < n → u k = f 1469 k := fun k k0 k1 => by
    rw [← hu]
    unfold laU
    rw [if_pos k0, if_pos k1]
  obtain ⟨fa, wa, xa, Ta, za, fra⟩ := c_readTape (q := q) (d := 1889) (t := t) (u := u) hR (by rw [hn]; exact hu2)
  rw [hn] at Ta
  obtain ⟨fb, xb, frb, A, B⟩ := c_lawFrom (q := q) (d := 1878) (a := 9) (T := 309) (t := (wa, t.2)) (by decide) Ta
  have frab : ∀ o k, (o < 9 ∨ 15 ≤ o) → o ≠ 309 → o ≠ 311 → o ≠ 312 → (o ≠ 0 ∨ k ≠ 12) → fb o k = f o k := fun o k h1 h2 h3 h4 h5 => by
    rw [frb o k (by omega) (by omega) (by omega), fra o k h5 h2 h3 h4]
  have b12 : fb 0 12 = 0 := (frb _ _ (by omega) (by omega) (by omega)).trans za
  have run0 : zM (true, q) 1898 95 [(19, 0, 0)] (f, t) = zD (true, q) 1898 zc_X_law (zat zc_X_law 7) [(19, 0, 0)] [] (fb, (wa, t.2)) := by
    rw [ze_X_law, zb_X_law_0, xa, zK_v, zb_X_law_2]
    show zK _ _ _ _ _ _ (zM (true, q) 1897 93 [(12, 9, 0), (15, 309, 0)] (fa, (wa, t.2))) = _
    rw [xb, zK_v]
  -- the reference reads
  have ref : ∀ (h : Int → Int → Int) (s : (Int → Int) × Nat × Nat × Nat × (Int → Int → Bool)), (∀ o k, 1464 ≤ o → o ≠ 1478 → h o k = f o k) → ∃ h2 c, zM (true, q) 1899 97 [(20, 1464, 0)] (h, s) = zD (true, q) 1899 zc_M_law (zat zc_M_law 5) [(20, 1464, 0), (2, 0, 0), (2, 0, 0)] [(0, c, 0)] (h2, s) ∧ (∀ o k, (o ≠ 1464 ∨ k < 8 ∨ (13 < k ∧ k < 18) ∨ 19 < k) → h2 o k = h o k) ∧ h2 1464 8 = 0 ∧ h2 1464 10 = n ∧ ((pLaw u n).1 = true → h2 1464 12 = -1 ∧ c = (pLaw u n).2.2.length) ∧ ((pLaw u n).1 ≠ true → h2 1464 12 = (pLaw u n).2.1 ∧ 0 ≤ (pLaw u n).2.1) := by
    intro h s hh
    have h8 : h 1464 8 = n := (hh _ _ (by decide) (by decide)).trans hn
    have h5 : h 1465 = f 1465 := funext fun k => hh _ _ (by decide) (by decide)
    obtain ⟨b1, b2, b3, b4, b5, b6⟩ := begins_at (h := h)
    have bfr : ∀ o k, (o ≠ 1464 ∨ k < 8 ∨ 13 < k) → (zup (zup (zup (zup (zup (zup h 1464 12 (-1)) 1464 9 (-1)) 1464 10 (h 1464 8)) 1464 8 0) 1464 11 0) 1464 13 0) o k = h o k := fun o k z => begins_fr z
    have rb := r_begins (q := q) (d := 1898) (t := s) (h := h)
    generalize zup (zup (zup (zup (zup (zup h 1464 12 (-1)) 1464 9 (-1)) 1464 10 (h 1464 8)) 1464 8 0) 1464 11 0) 1464 13 0 = G at b1 b2 b3 b4 b5 b6 bfr rb
    have hb3 := r6.2
    have hI : XI G (f 1465) u n (fun i => if i < 7 then h 1470 i else if i = 7 then h 1464 15 else if i = 8 then h 1464 16 else h 1464 17) 0 (txS u n 0) := by
      refine ⟨⟨t2, t3, by rw [b3, h8], Or.inl ⟨b2, fun k k0 k1 => ?_⟩⟩, ⟨fun k k0 k1 => ?_, ?_, ?_, ?_, ?_, ?_, ?_⟩, b5, by omega, by omega, by rw [b4], b6⟩
      · rw [bfr _ _ (by omega), hh _ _ (by decide) (by decide), hu2 k k0 k1]
      · rw [bfr _ _ (by omega)]
        exact (if_pos k1).symm
      · rw [bfr _ _ (by omega)]
        rfl
      · rw [bfr _ _ (by omega)]
        rfl
      · rw [bfr _ _ (by omega)]
        rfl
      · show h 1464 15 = 0 ∨ h 1464 15 = 1
        rw [hh _ _ (by decide) (by decide)]
        exact hb3.1
      · show h 1464 16 = 0 ∨ h 1464 16 = 1
        rw [hh _ _ (by decide) (by decide)]
        exact hb3.2.1
      · show h 1464 17 = 0 ∨ h 1464 17 = 1
        rw [hh _ _ (by decide) (by decide)]
        exact hb3.2.2
    obtain ⟨h2, c, r2, fu, a1, a2⟩ := x_reads (q := q) (d := 1868) (t := s) hI b4
    have eG : zrow G 1465 (f 1465) = G := by
      have : G 1465 = f 1465 := by
        rw [← h5]
        exact funext fun k => bfr _ _ (by omega)
      rw [← this, zrow_id]
    have eh : zrow h2 1465 (f 1465) = h2 := by
      have : h2 1465 = f 1465 := by
        rw [← h5]
        exact funext fun k => (fu _ _ (by omega)).trans (bfr _ _ (by omega))
      rw [← this, zrow_id]
    rw [eG, eh] at r2
    refine ⟨h2, c, ?_, fun o k hk => (fu o k (by omega)).trans (bfr o k (by omega)), (fu _ _ (by omega)).trans b1, (fu _ _ (by omega)).trans (b3.trans h8), fun z => ⟨(a1 z).1, (a1 z).2.1⟩, a2⟩
    rw [ze_M_law, zb_M_law_0, rb, zK_v, zb_M_law_2, r2, zK_i]
  by_cases ok : (pLaw u n).1 = true
  · obtain ⟨c5, cl, c6, c70, c74, cb⟩ := A ok
    generalize hc : ((pLaw u n).2.2.length : Int) = c at c6
    generalize hw : laW (f 1469) (f 1465) n c = w
    have wz : ∀ j, 1710 ≤ j → w j = 0 := fun j hj => by
      rw [← hw]
      unfold laW
      rw [if_neg (by omega), if_neg (by omega), if_neg (by omega)]
      exact r2.1 j hj
    have w1 : w 1 = c := by
      rw [← hw]
      exact if_pos rfl
    have w2 : w 2 = n := by
      rw [← hw]
      unfold laW
      rw [if_neg (by decide), if_pos rfl]
    have wu : zTu w = u := by rw [← hw, laU_W, hu]
    have c0 : 0 ≤ c := by omega
    have wp : (pLaw (zTu w) (zTn w)).2.2 = (pLaw u n).2.2 ∧ (pLaw (zTu w) (zTn w)).1 = true ∧ 0 ≤ zTn w ∧ zTn w ≤ 400 := by
      rw [wu]
      unfold zTn
      rw [w1, w2]
      by_cases h : c < 1
      · rw [if_pos h, pLaw_0]
        have : (pLaw u n).2.2 = [] := List.eq_nil_of_length_eq_zero (by omega)
        rw [this]
        exact ⟨rfl, rfl, by decide, by decide⟩
      · rw [if_neg h]
        exact ⟨rfl, ok, t2, t3⟩
    have RL9 : zRL fb 9 w := ⟨wz, w, (pLaw u n).2.2, fun _ _ => rfl, ⟨wp.2.1, wp.2.2⟩, wp.1.symm, by rw [w1, c6], Or.inl (by rw [c6, hc]), cl, c70, c74, cb⟩
    obtain ⟨fc, xc, RL2, frc⟩ := zRL_copy (q := q) (d := 1896) (t := (wa, t.2)) (a := 2) (b := 9) (by decide) (zRL_c (f2 := zup fb 0 13 (-1)) (fun o k o0 o1 => zup_na (by omega)) RL9)
    have e26 : fc 2 6 = c := by
      obtain ⟨_, _, _, _, _, _, h, _⟩ := RL2
      rw [h, w1]
    have hx : zM (true, q) 1898 95 [(19, 0, 0)] (f, t) = some ((0, c, 0), (zup fc 0 16 0, (wa, t.2))) := by
      rw [run0, zb_X_law_7]
      show (if zup fb 0 13 (fb 309 5) 0 13 = -1 then zD (true, q) 1898 zc_X_law (zat zc_X_law 21) _ _ (zup fb 0 13 (fb 309 5), (wa, t.2)) else _) = _
      rw [c5, zupE rfl rfl, if_pos rfl, zb_X_law_21]
      show zK _ _ _ _ _ _ (zM (true, q) 1897 94 [(12, 2, 0), (12, 9, 0)] (zup fb 0 13 (-1), (wa, t.2))) = _
      rw [xc, zK_v, zb_X_law_26]
      show some ((0, zup fc 0 16 0 2 6, 0), (zup fc 0 16 0, (wa, t.2))) = _
      rw [zup_na (by decide), e26]
    have hk := k_law_v hx
    generalize hF : zup (zup fc 0 16 0) 1478 0 c = F at hk
    have fF : ∀ o k, (o = 0 → k ≠ 12 ∧ k ≠ 13 ∧ k ≠ 16) → (o < 2 ∨ 15 ≤ o) → o ≠ 309 → o ≠ 311 → o ≠ 312 → o ≠ 1478 → F o k = f o k := fun o k h0 h1 h2 h3 h4 h5 => by
      rw [← hF, zup_na h5, zup_nka (by omega), frc o k (by omega), zup_nka (by omega), frab o k (by omega) h2 h3 h4 (by omega)]
    obtain ⟨h2, cc, rr, hfr, h28, h210, g1, _⟩ := ref F (wa, t.2) (fun o k o0 o1 => fF o k (by omega) (by omega) (by omega) (by omega) (by omega) o1)
    obtain ⟨g12, gc⟩ := g1 ok
    rw [hc] at gc
    subst gc
    -- the row's new text
    generalize hG : zup (zup (zup h2 1464 0 0) 1465 1 cc) 1465 2 n = G
    have G10 : G 1464 10 = n := by
      rw [← hG, zup_na (by decide), zup_na (by decide), zup_nk (by decide)]
      exact h210
    obtain ⟨h3, r3, hcp1, hcp2⟩ := l_lawT (q := q) (d := 1899) (t := (wa, t.2)) (F := G) (z := cc) G10 t2 t3 n.toNat 0 G (Int.le_refl 0) (by omega) zCp_0
    have hm : zM (true, q) 1899 97 [(20, 1464, 0)] (F, (wa, t.2)) = some ((0, cc, 0), (zup h3 1464 6 0, (wa, t.2))) := by
      rw [rr, zb_M_law_5]
      show (if h2 1464 12 = -1 then _ else _) = _
      rw [g12, if_pos rfl, zb_M_law_13]
      show (if zup h2 1464 0 0 1464 0 ≤ 0 then zD (true, q) 1899 zc_M_law (zat zc_M_law 20) _ _ (zup h2 1464 0 0, (wa, t.2)) else _) = _
      rw [zupE rfl rfl, if_pos (by decide), zb_M_law_20, zG2 (by decide) (by decide), zb_M_law_25, zG2 (by decide) (by decide)]
      show zD (true, q) 1899 zc_M_law (zat zc_M_law 31) _ _ (zup (zup (zup h2 1464 0 0) 1465 1 cc) 1465 2 (zup (zup h2 1464 0 0) 1465 1 cc 1464 10), (wa, t.2)) = _
      rw [zup_na (b := 1464) (by decide), zup_nk (by decide), h210, hG, zb_M_law_31, r3, zb_M_law_49]
    have hG0 : ∀ o k, (o ≠ 1464 ∨ (k ≠ 0 ∧ (k < 8 ∨ (13 < k ∧ k < 18) ∨ 19 < k))) → (o ≠ 1465 ∨ (k ≠ 1 ∧ k ≠ 2)) → G o k = F o k := fun o k a b => by
      rw [← hG, zup_nka (by omega), zup_nka (by omega), zup_nka (by omega)]
      exact hfr o k (by omega)
    have g5 : h3 1465 = w := by
      funext j
      rw [← hw]
      unfold laW
      by_cases j1 : j = 1
      · rw [if_pos j1, j1, hcp2 _ _ (by omega), ← hG, zup_nk (by decide), zupE rfl rfl]
      · rw [if_neg j1]
        by_cases j2 : j = 2
        · rw [if_pos j2, j2, hcp2 _ _ (by omega), ← hG, zupE rfl rfl]
        · rw [if_neg j2]
          by_cases jt : 1310 ≤ j ∧ j < 1310 + n
          · rw [if_pos jt]
            have := hcp1 (j - 1310) (by omega) (by omega)
            rw [show 1310 + (j - 1310) = j by omega, Int.zero_add, hG0 _ _ (by omega) (by omega), fF _ _ (by omega) (by omega) (by omega) (by omega) (by omega) (by omega)] at this
            exact this
          · rw [if_neg jt, hcp2 _ _ (by omega), hG0 _ _ (by omega) (by omega), fF _ _ (by omega) (by omega) (by omega) (by omega) (by omega) (by omega)]
    have h3o : ∀ o k, o ≠ 1465 → (o ≠ 1464 ∨ (k ≠ 0 ∧ (k < 8 ∨ (13 < k ∧ k < 18) ∨ 19 < k))) → h3 o k = F o k := fun o k a b => by
      rw [hcp2 o k (by omega), hG0 o k b (by omega)]
    generalize hH : zup h3 1464 6 0 = H at hm
    have Ho : ∀ o k, o ≠ 1465 → (o ≠ 1464 ∨ (k ≠ 0 ∧ k ≠ 6 ∧ (k < 8 ∨ (13 < k ∧ k < 18) ∨ 19 < k))) → H o k = F o k := fun o k a b => by
      rw [← hH, zup_nka (by omega)]
      exact h3o o k a (by omega)
    have H5 : H 1465 = w := by rw [← hH, zup_row (by decide), g5]
    have H6 : H 1464 6 = 0 := by rw [← hH, zupE rfl rfl]
    have Hof : ∀ o k, 1464 ≤ o → o ≠ 1465 → o ≠ 1478 → (o ≠ 1464 ∨ (k ≠ 0 ∧ k ≠ 6 ∧ (k < 8 ∨ (13 < k ∧ k < 18) ∨ 19 < k))) → H o k = f o k := fun o k a b c e => by
      rw [Ho o k b e, fF o k (by omega) (by omega) (by omega) (by omega) (by omega) c]
    have H8 : H 1464 8 = 0 := by
      rw [← hH, zup_nk (by decide), hcp2 _ _ (by omega), ← hG, zup_na (by decide), zup_na (by decide), zup_nk (by decide)]
      exact h28
    have H12 : H 1464 12 = -1 := by
      rw [← hH, zup_nk (by decide), hcp2 _ _ (by omega), ← hG, zup_na (by decide), zup_na (by decide), zup_nk (by decide)]
      exact g12
    have H00 : H 1464 0 = 0 := by
      rw [← hH, zup_nk (by decide), hcp2 _ _ (by omega), ← hG, zup_na (by decide), zup_na (by decide), zupE rfl rfl]
    have F12 : F 0 12 = 0 := by
      rw [← hF, zup_na (by decide), zup_nk (by decide), frc _ _ (by omega), zup_nk (by decide)]
      exact b12
    have F13 : F 0 13 = -1 := by
      rw [← hF, zup_na (by decide), zup_nk (by decide), frc _ _ (by omega), zupE rfl rfl]
    have F16 : F 0 16 = 0 := by
      rw [← hF, zup_na (by decide), zupE rfl rfl]
    have R : ZR N F H := by
      refine ⟨r0, ?_, ?_, ⟨by rw [H8, F12], by omega, by omega, fun k k0 k1 => by omega⟩, zRI_c (f := f) (h := f) (fun o k ho => fF o k (by omega) (by omega) (by omega) (by omega) (by omega) (by omega)) (Hof _ _ (by decide) (by decide) (by decide) (by omega)) (funext fun k => Hof _ _ (by decide) (by decide) (by decide) (by omega)) r4, ⟨by omega, by omega, by rw [F16, H6], ?_, ?_, fun i i0 i1 => by omega⟩, by rw [F13, H12], zB3_fr (fun k k0 k1 => Hof _ _ (by decide) (by decide) (by decide) (by omega)) r6.2⟩
      · rw [H5]
        refine zRW_g2 (g := f 1465) (fun j j0 j1 j2 j3 => ?_) (zRW_c (fun o k o0 o1 o2 => fF o k (by omega) (by omega) (by omega) (by omega) (by omega) (by omega)) r1)
        rw [← hw]
        unfold laW
        rw [if_neg j2, if_neg j3, if_neg (by omega)]
      · rw [H5]
        exact zRL_c (fun o k o0 o1 => by rw [← hF, zup_na (by omega), zup_na (by omega)]) RL2
      · rw [fF 0 15 (by omega) (by omega) (by omega) (by omega) (by omega) (by omega)]
        exact r5.2.2.2.1
      · rw [fF 0 15 (by omega) (by omega) (by omega) (by omega) (by omega) (by omega)]
        exact r5.2.2.2.2.1
    refine ⟨0, cc, F, (wa, t.2), H, hk, hm, H00, fun _ => ?_, ZR_c (fun o k ho => Ho o k (by omega) (by omega)) zHk_refl R, zTt_refl⟩
    rw [Ho _ _ (by decide) (by omega), ← hF, zupE rfl rfl]
  · obtain ⟨c5, cn⟩ := B ok
    have hx : zM (true, q) 1898 95 [(19, 0, 0)] (f, t) = some ((100, 0, 0), (zup fb 0 13 (pLaw u n).2.1, zThr (wa, t.2))) := by
      rw [run0, zb_X_law_7]
      show (if zup fb 0 13 (fb 309 5) 0 13 = -1 then _ else zD (true, q) 1898 zc_X_law (zat zc_X_law 16) _ _ (zup fb 0 13 (fb 309 5), (wa, t.2))) = _
      rw [c5, zupE rfl rfl, if_neg cn, zb_X_law_16]
      rfl
    have hk := k_law_100 hx
    generalize hF : zup fb 0 13 (pLaw u n).2.1 = F at hk
    have fF : ∀ o k, (o = 0 → k ≠ 12 ∧ k ≠ 13) → (o < 9 ∨ 15 ≤ o) → o ≠ 309 → o ≠ 311 → o ≠ 312 → F o k = f o k := fun o k h0 h1 h2 h3 h4 => by
      rw [← hF, zup_nka (by omega), frab o k (by omega) h2 h3 h4 (by omega)]
    obtain ⟨h2, cc, rr, hfr, h28, h210, _, g2⟩ := ref F (zThr (wa, t.2)) (fun o k o0 o1 => fF o k (by omega) (by omega) (by omega) (by omega) (by omega))
    obtain ⟨g12, gn⟩ := g2 ok
    have hm : zM (true, q) 1899 97 [(20, 1464, 0)] (F, zThr (wa, t.2)) = some ((0, 0, 0), (zup h2 1464 0 1, zThr (wa, t.2))) := by
      rw [rr, zb_M_law_5]
      show (if h2 1464 12 = -1 then _ else _) = _
      rw [g12, if_neg cn, zb_M_law_11]
      show (if zup h2 1464 0 1 1464 0 ≤ 0 then _ else zD (true, q) 1899 zc_M_law (zat zc_M_law 18) _ _ (zup h2 1464 0 1, zThr (wa, t.2))) = _
      rw [zupE rfl rfl, if_neg (by decide), zb_M_law_18]
    generalize hH : zup h2 1464 0 1 = H at hm
    have Ho : ∀ o k, (o ≠ 1464 ∨ (k ≠ 0 ∧ (k < 8 ∨ (13 < k ∧ k < 18) ∨ 19 < k))) → H o k = F o k := fun o k b => by
      rw [← hH, zup_nka (by omega)]
      exact hfr o k (by omega)
    have Hof : ∀ o k, 1464 ≤ o → (o ≠ 1464 ∨ (k ≠ 0 ∧ (k < 8 ∨ (13 < k ∧ k < 18) ∨ 19 < k))) → H o k = f o k := fun o k a e => by
      rw [Ho o k e, fF o k (by omega) (by omega) (by omega) (by omega) (by omega)]
    have H8 : H 1464 8 = 0 := by
      rw [← hH, zup_nk (by decide)]
      exact h28
    have H12 : H 1464 12 = (pLaw u n).2.1 := by
      rw [← hH, zup_nk (by decide)]
      exact g12
    have F12 : F 0 12 = 0 := by
      rw [← hF, zup_nk (by decide)]
      exact b12
    have F13 : F 0 13 = (pLaw u n).2.1 := by
      rw [← hF, zupE rfl rfl]
    have H5 : H 1465 = f 1465 := funext fun k => Hof _ _ (by decide) (by omega)
    have R : ZR N F H := by
      refine ⟨r0, ?_, ?_, ⟨by rw [H8, F12], by omega, by omega, fun k k0 k1 => by omega⟩, zRI_c (f := f) (h := f) (fun o k ho => fF o k (by omega) (by omega) (by omega) (by omega) (by omega)) (Hof _ _ (by decide) (by omega)) (funext fun k => Hof _ _ (by decide) (by omega)) r4, zRA_c (f := f) (h := f) (fun o k ho => fF o k (by omega) (by omega) (by omega) (by omega) (by omega)) (Hof _ _ (by decide) (by omega)) (funext fun k => Hof _ _ (by decide) (by omega)) (by rw [H5]) (by rw [H5]) r5, by rw [F13, H12], zB3_fr (fun k k0 k1 => Hof _ _ (by decide) (by omega)) r6.2⟩
      · rw [H5]
        exact zRW_c (fun o k o0 o1 o2 => fF o k (by omega) (by omega) (by omega) (by omega) (by omega)) r1
      · rw [H5]
        exact zRL_c (fun o k o0 o1 => fF o k (by omega) (by omega) (by omega) (by omega) (by omega)) r2
    refine ⟨1, 0, F, zThr (wa, t.2), H, hk, hm, by rw [← hH, zupE rfl rfl], fun z => absurd z (by decide), ZR_c (fun o k ho => Ho o k (by omega)) zHk_refl R, ?_⟩
    exact zTt_thr (t := (wa, t.2))

