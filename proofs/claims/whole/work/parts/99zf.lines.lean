/-! ## lines -/
theorem zGC_0 {f : Int → Int → Int} {W v : Int} {g : Int → Int} (h : zGC f W g) : zGC (zup f W 5 v) W (zup1 g 0 v) := by
  obtain ⟨a1, a2, a3, a4, a5, a6, a7, j1, j2, j3, j4⟩ := h
  refine ⟨?_, zupE rfl rfl, ?_, ?_, ?_, ?_, ?_, ?_, ?_, ?_, fun ago c b0 b1 c0 c1 => ?_⟩
  · rw [zup_nk (by decide), zup1_ne (by decide)]; exact a1
  · rw [zup_nk (by decide), zup1_ne (by decide)]; exact a3
  · rw [zup_nk (by decide), zup1_ne (by decide)]; exact a4
  · rw [zup_nk (by decide), zup1_ne (by decide)]; exact a5
  · rw [zup_nk (by decide), zup1_ne (by decide)]; exact a6
  · rw [zup_nk (by decide), zup1_ne (by decide)]; exact a7
  · rw [zup_na (by omega), zup1_ne (by decide)]; exact j1
  · rw [zup_na (by omega)]; exact j2
  · rw [zup_na (by omega)]; exact j3
  · rw [zup1_ne (by decide)] at b1
    rw [zup_na (by omega), zup_na (by omega), zup1_ne (by omega)]
    exact j4 ago c b0 b1 c0 c1
theorem zRW_0 {N : Int} {f : Int → Int → Int} {W v : Int} {g : Int → Int} (hv : 0 ≤ v ∧ v ≤ 12) (hG : zGC f W g) (hL : zWL f W g) (hI : gInv N g) : zRW N (zup f W 5 v) W (zup1 g 0 v) := by
  obtain ⟨⟨m0, m4, hR, hJ⟩, t0, t1⟩ := hI
  refine ⟨zGC_0 hG, fun o o0 o1 => ?_, ⟨by rw [zup1_ne (by decide)]; exact m0, by rw [zup1_ne (by decide)]; exact m4, ?_, fun o o0 o1 => ?_⟩, by rw [zup1_eq rfl]; exact hv, by rw [zup1_ne (by decide)]; exact ⟨t0, t1⟩⟩
  · rw [zup1_ne (by decide)] at o1
    rw [zup1_ne (by omega)]
    have hro := (hJ o o0 o1).1.1
    exact zLC_eq (fun j j0 j1 => zup1_ne (by omega)) hro (by have := hro.2.2.1; omega) (zLC_fr (fun x k x0 x1 => zup_na (by omega)) (hL o o0 o1))
  · unfold zGR
    rw [zup1_ne (by decide), zup1_ne (by decide), zup1_ne (by decide), zup1_ne (by decide)]
    exact hR
  · rw [zup1_ne (by decide)] at o1
    rw [zup1_ne (by omega), zup1_ne (by omega)]
    exact ⟨zLI_eq (fun j j0 j1 => zup1_ne (by omega)) (hJ o o0 o1).1, (hJ o o0 o1).2⟩
theorem o_lines {q : Int × (Int → Int)} {N : Int} {f : Int → Int → Int} {t : (Int → Int) × Nat × Nat × Nat × (Int → Int → Bool)} (hR : ZR N f f) (hN : N ≤ 1000000) : zOw q (N + 240) f t 57 [(19, 0, 0), (31, 1478, 1)] 86 [(20, 1464, 0)] := by
  obtain ⟨r0, r1, r2, ⟨t1, t2, t3, t4⟩, r4, r5, r6⟩ := id hR
  generalize hn : f 1464 8 = n at t1 t2 t3 t4
  have hI : gInv N (f 1465) := ⟨r1.2.2.1, r1.2.2.2.2⟩
  obtain ⟨fa, wa, xa, Ta, za, fra⟩ := c_readTape (q := q) (d := 1889) (t := t) (u := f 1469) hR (fun _ _ _ => rfl)
  rw [hn] at Ta
  have Ga : zGC fa 23 (f 1465) := zGC_c (fun o k o0 o1 _ => fra o k (by omega) (by omega) (by omega) (by omega)) r1.1
  have La : zWL fa 23 (f 1465) := zWL_c r1.2.2.1.2.1 (fun o k o0 o1 => fra o k (by omega) (by omega) (by omega) (by omega)) r1.2.1
  obtain ⟨fb, xb, Gb, Lb, frb⟩ := c_world (q := q) (d := 1894) (t := (wa, t.2)) (U := 118) (W := 23) (by omega) r1.2.2.1.1 r1.2.2.1.2.1 r1.2.2.1.2.2.1.2.2.2.2 (fun o o0 o1 => (r1.2.2.1.2.2.2 o o0 o1).1.1) Ga La
  have Tb : zTC fb (wa, t.2).1 309 (f 1469) n (txS (f 1469) n 0) (-1) := zTC_fr (fun o k o0 => frb o k (by omega)) Ta
  obtain ⟨fc, xc, Ec, frc⟩ := c_readLinesT (q := q) (d := 1893) (t := (wa, t.2)) (by decide) Tb Gb Lb hI (by omega)
  obtain ⟨v1, v2⟩ := gInv_tx (u := f 1469) (n := n) t2 hI
  generalize hx : pTx (f 1469) n (f 1465) = x at Ec v1 v2
  obtain ⟨e5, Eok⟩ := Ec
  have frc0 : ∀ o k, (o < 118 ∨ 213 ≤ o) → o ≠ 309 → o ≠ 311 → o ≠ 312 → (o ≠ 0 ∨ k ≠ 12) → fc o k = f o k := fun o k h1 h2 h3 h4 h5 => by
    rw [frc o k (by omega) (by omega), frb o k (by omega), fra o k h5 h2 h3 h4]
  have c12 : fc 0 12 = 0 := by rw [frc _ _ (by omega) (by omega), frb _ _ (by omega), za]
  have run0 : zM (true, q) 1898 56 [(19, 0, 0)] (f, t) = zD (true, q) 1898 zc_X_lines (zat zc_X_lines 12) [(19, 0, 0)] [] (fc, (wa, t.2)) := by
    rw [ze_X_lines, zb_X_lines_0, xa, zK_v, zb_X_lines_2]
    show zK _ _ _ _ _ _ (zM (true, q) 1897 43 [(18, 118, 0), (18, 23, 0)] (fa, (wa, t.2))) = _
    rw [xb, zK_v, zb_X_lines_7]
    show zK _ _ _ _ _ _ (zM (true, q) 1897 55 [(18, 118, 0), (15, 309, 0)] (fb, (wa, t.2))) = _
    rw [xc, zK_v]
  -- the reference reads
  have ref : ∀ (h : Int → Int → Int) (s : (Int → Int) × Nat × Nat × Nat × (Int → Int → Bool)), (∀ o k, 1464 ≤ o → o ≠ 1478 → h o k = f o k) → ∃ h2 c, zM (true, q) 1899 86 [(20, 1464, 0)] (h, s) = zD (true, q) 1899 zc_M_lines (zat zc_M_lines 7) [(20, 1464, 0), (2, 0, 0)] [(0, c, 0)] (zrow h2 1465 x.2.2, s) ∧ (∀ o k, o ≠ 1465 → o ≠ 1467 → (o ≠ 1464 ∨ k < 8 ∨ 13 < k) → h2 o k = h o k) ∧ h2 1464 8 = 0 ∧ h2 1464 12 = x.1 ∧ (∀ j, 0 ≤ j → j < 1310 → h2 1467 j = f 1465 j) := by
    intro h s hh
    have h5 : h 1465 = f 1465 := funext fun k => hh _ _ (by decide) (by decide)
    obtain ⟨h1, ro, ka, kb⟩ := r_out (q := q) (d := 1898) (t := s) (f := h) (g := f 1465)
    have e0 : zrow h 1465 (f 1465) = h := by rw [← h5, zrow_id]
    rw [e0] at ro
    generalize hh1 : zrow h1 1465 (f 1465) = H1 at ro
    have H1o : ∀ o k, o ≠ 1465 → o ≠ 1467 → H1 o k = h o k := fun o k a b => by
      rw [← hh1, zrow_ne a]
      exact kb o k a b
    have H15 : H1 1465 = f 1465 := by rw [← hh1, zrow_r]
    have H17 : ∀ j, 0 ≤ j → j < 1310 → H1 1467 j = f 1465 j := fun j j0 j1 => by
      rw [← hh1, zrow_ne (by decide)]
      exact ka j j0 j1
    have H8 : H1 1464 8 = n := by rw [H1o _ _ (by decide) (by decide), hh _ _ (by decide) (by decide), hn]
    obtain ⟨b1, b2, b3, b4, b5, b6⟩ := begins_at (h := H1)
    have bfr : ∀ o k, (o ≠ 1464 ∨ k < 8 ∨ 13 < k) → (zup (zup (zup (zup (zup (zup H1 1464 12 (-1)) 1464 9 (-1)) 1464 10 (H1 1464 8)) 1464 8 0) 1464 11 0) 1464 13 0) o k = H1 o k := fun o k z => begins_fr z
    have rb := r_begins (q := q) (d := 1898) (t := s) (h := H1)
    generalize zup (zup (zup (zup (zup (zup H1 1464 12 (-1)) 1464 9 (-1)) 1464 10 (H1 1464 8)) 1464 8 0) 1464 11 0) 1464 13 0 = G at b1 b2 b3 b4 b5 b6 bfr rb
    have hb3 := r6.2
    have hJ : XJ G (f 1469) n (fun i => if i < 7 then h 1470 i else if i = 7 then h 1464 15 else if i = 8 then h 1464 16 else h 1464 17) (-1) (txS (f 1469) n 0) := by
      refine ⟨b2, ⟨t2, t3, by rw [b3, H8], Or.inl ⟨b2, fun k k0 k1 => ?_⟩⟩, ⟨fun k k0 k1 => ?_, ?_, ?_, ?_, ?_, ?_, ?_⟩, b6, by omega, b5, fun _ => ⟨by omega, by rw [b4]⟩⟩
      · rw [bfr _ _ (by omega), H1o _ _ (by decide) (by decide), hh _ _ (by decide) (by decide)]
      · rw [bfr _ _ (by omega), H1o _ _ (by decide) (by decide)]
        exact (if_pos k1).symm
      · rw [bfr _ _ (by omega), H1o _ _ (by decide) (by decide)]
        rfl
      · rw [bfr _ _ (by omega), H1o _ _ (by decide) (by decide)]
        rfl
      · rw [bfr _ _ (by omega), H1o _ _ (by decide) (by decide)]
        rfl
      · show h 1464 15 = 0 ∨ h 1464 15 = 1
        rw [hh _ _ (by decide) (by decide)]
        exact hb3.1
      · show h 1464 16 = 0 ∨ h 1464 16 = 1
        rw [hh _ _ (by decide) (by decide)]
        exact hb3.2.1
      · show h 1464 17 = 0 ∨ h 1464 17 = 1
        rw [hh _ _ (by decide) (by decide)]
        exact hb3.2.2
    obtain ⟨c, h2, r2, fu, a1⟩ := j_treads (q := q) (d := 1890) (t := s) (g := f 1465) hJ b4 hI (by omega)
    have eG : zrow G 1465 (f 1465) = G := by
      have : G 1465 = f 1465 := by
        rw [← H15]
        exact funext fun k => bfr _ _ (by omega)
      rw [← this, zrow_id]
    rw [eG, hx] at r2
    rw [hx] at a1
    refine ⟨h2, c, ?_, fun o k ho1 ho2 hk => ?_, ?_, a1, fun j j0 j1 => ?_⟩
    · rw [ze_M_lines, zb_M_lines_0, ro, zK_v, zb_M_lines_2, rb, zK_v, zb_M_lines_4, r2, zK_i]
    · rw [fu o k (by omega), bfr o k (by omega), H1o o k ho1 ho2]
    · rw [fu _ _ (by omega), b1]
    · rw [fu _ _ (by omega), bfr _ _ (by omega)]
      exact H17 j j0 j1
  -- what is thrown
  have thr : ∀ code : Int, zM (true, q) 1899 57 [(19, 0, 0), (31, 1478, 1)] (f, t) = some ((0, code, 0), (zup fc 0 13 x.1, zThr (wa, t.2))) → code ≠ 0 → (∀ (h2 : Int → Int → Int) (c : Int) (s : (Int → Int) × Nat × Nat × Nat × (Int → Int → Bool)), h2 1464 12 = x.1 → zD (true, q) 1899 zc_M_lines (zat zc_M_lines 7) [(20, 1464, 0), (2, 0, 0)] [(0, c, 0)] (zrow h2 1465 x.2.2, s) = zD (true, q) 1899 zc_M_lines (zat zc_M_lines 28) [(20, 1464, 0), (0, c, 0)] [] (zrow (zup h2 1464 0 code) 1465 x.2.2, s)) → zOw q (N + 240) f t 57 [(19, 0, 0), (31, 1478, 1)] 86 [(20, 1464, 0)] := by
    intro code hk hc hm
    refine zOw_mono (N := N) (by omega) ?_
    generalize hF : zup fc 0 13 x.1 = F at hk
    have fF : ∀ o k, (o = 0 → k ≠ 12 ∧ k ≠ 13) → (o < 118 ∨ 213 ≤ o) → o ≠ 309 → o ≠ 311 → o ≠ 312 → F o k = f o k := fun o k h0 h1 h2 h3 h4 => by
      rw [← hF, zup_nka (by omega), frc0 o k h1 h2 h3 h4 (by omega)]
    obtain ⟨h2, c, rr, hfr, h28, h212, h217⟩ := ref F (zThr (wa, t.2)) (fun o k o0 o1 => fF o k (by omega) (by omega) (by omega) (by omega) (by omega))
    have rin := r_in (q := q) (d := 1898) (t := zThr (wa, t.2)) (f := zup h2 1464 0 code) (g := f 1465) (K := x.2.2) (fun j j0 j1 => by rw [zup_na (by decide)]; exact h217 j j0 j1) (fun j hj => v2 j (by omega))
    have hm2 : zM (true, q) 1899 86 [(20, 1464, 0)] (F, zThr (wa, t.2)) = some ((0, 0, 0), (zrow (zup h2 1464 0 code) 1465 (f 1465), zThr (wa, t.2))) := by
      rw [rr, hm h2 c _ h212, zb_M_lines_28, rin, zK_v, zb_M_lines_30]
    generalize hH : zrow (zup h2 1464 0 code) 1465 (f 1465) = H at hm2
    have H5 : H 1465 = f 1465 := by rw [← hH, zrow_r]
    have Ho : ∀ o k, o ≠ 1465 → o ≠ 1467 → (o ≠ 1464 ∨ (k ≠ 0 ∧ (k < 8 ∨ 13 < k))) → H o k = F o k := fun o k a b e => by
      rw [← hH, zrow_ne a, zup_nka (by omega)]
      exact hfr o k a b (by omega)
    have Hof : ∀ o k, 1464 ≤ o → o ≠ 1465 → o ≠ 1467 → (o ≠ 1464 ∨ (k ≠ 0 ∧ (k < 8 ∨ 13 < k))) → H o k = f o k := fun o k a b b2 e => by
      rw [Ho o k b b2 e, fF o k (by omega) (by omega) (by omega) (by omega) (by omega)]
    have H8 : H 1464 8 = 0 := by
      rw [← hH, zrow_ne (by decide), zup_nk (by decide)]
      exact h28
    have H12 : H 1464 12 = x.1 := by
      rw [← hH, zrow_ne (by decide), zup_nk (by decide)]
      exact h212
    have H00 : H 1464 0 = code := by
      rw [← hH, zrow_ne (by decide), zupE rfl rfl]
    have F12 : F 0 12 = 0 := by
      rw [← hF, zup_nk (by decide)]
      exact c12
    have F13 : F 0 13 = x.1 := by
      rw [← hF, zupE rfl rfl]
    have R : ZR N F H := by
      refine ⟨r0, ?_, ?_, ⟨by rw [H8, F12], by omega, by omega, fun k k0 k1 => by omega⟩, zRI_c (f := f) (h := f) (fun o k ho => fF o k (by omega) (by omega) (by omega) (by omega) (by omega)) (Hof _ _ (by decide) (by decide) (by decide) (by omega)) (funext fun k => Hof _ _ (by decide) (by decide) (by decide) (by omega)) r4, zRA_c (f := f) (h := f) (fun o k ho => fF o k (by omega) (by omega) (by omega) (by omega) (by omega)) (Hof _ _ (by decide) (by decide) (by decide) (by omega)) (funext fun k => Hof _ _ (by decide) (by decide) (by decide) (by omega)) (by rw [H5]) (by rw [H5]) r5, by rw [F13, H12], zB3_fr (fun k k0 k1 => Hof _ _ (by decide) (by decide) (by decide) (by omega)) r6.2⟩
      · rw [H5]
        exact zRW_c (fun o k o0 o1 o2 => fF o k (by omega) (by omega) (by omega) (by omega) (by omega)) r1
      · rw [H5]
        exact zRL_c (fun o k o0 o1 => fF o k (by omega) (by omega) (by omega) (by omega) (by omega)) r2
    refine ⟨code, 0, F, zThr (wa, t.2), H, hk, hm2, H00, fun z => absurd z hc, ZR_c (fun o k ho => ?_) zHk_refl R, zTt_thr (t := (wa, t.2))⟩
    exact Ho o k (by omega) (by omega) (by omega)
  have e35 : fc 23 5 = f 1465 0 := by
    rw [frc0 _ _ (by omega) (by omega) (by omega) (by omega) (by omega)]
    exact r1.1.2.1
  have w0 := r1.2.2.2.1
  have x0 : x.2.2 0 = f 1465 0 := v2 0 (by omega)
  by_cases ok : x.1 = -1
  · by_cases c0 : f 1465 0 < 12
    · obtain ⟨Gc, Lc⟩ := Eok ok
      have Gc1 : zGC (zup fc 0 13 (-1)) 118 x.2.2 := zGC_c (fun o k o0 o1 _ => zup_na (by omega)) Gc
      have Lc1 : zWL (zup fc 0 13 (-1)) 118 x.2.2 := zWL_c v1.1.2.1 (fun o k o0 o1 => zup_na (by omega)) Lc
      obtain ⟨fd, xd, Gd, Ld, frd⟩ := c_world (q := q) (d := 1894) (t := (wa, t.2)) (U := 23) (W := 118) (by omega) v1.1.1 v1.1.2.1 v1.1.2.2.1.2.2.2.2 (fun o o0 o1 => (v1.1.2.2.2 o o0 o1).1.1) Gc1 Lc1
      have d5 : fd 23 5 = f 1465 0 := Gd.2.1.trans x0
      have hx2 : zM (true, q) 1898 56 [(19, 0, 0)] (f, t) = some ((0, f 1465 0 + 1, 0), (zup (zup fd 23 5 (f 1465 0 + 1)) 0 16 0, (wa, t.2))) := by
        rw [run0, zb_X_lines_12]
        show (if zup fc 0 13 (fc 309 5) 0 13 = -1 then zD (true, q) 1898 zc_X_lines (zat zc_X_lines 26) _ _ (zup fc 0 13 (fc 309 5), (wa, t.2)) else _) = _
        rw [e5, ok, zupE rfl rfl, if_pos rfl, zb_X_lines_26]
        show (if zup fc 0 13 (-1) 23 5 < 12 then zD (true, q) 1898 zc_X_lines (zat zc_X_lines 36) _ _ (zup fc 0 13 (-1), (wa, t.2)) else _) = _
        rw [zup_na (by decide), e35, if_pos c0, zb_X_lines_36]
        show zK _ _ _ _ _ _ (zM (true, q) 1897 43 [(18, 23, 0), (18, 118, 0)] (zup fc 0 13 (-1), (wa, t.2))) = _
        rw [xd, zK_v, zb_X_lines_41]
        show some ((0, zup (zup fd 23 5 (zw (fd 23 5 + 1))) 0 16 0 23 5, 0), (zup (zup fd 23 5 (zw (fd 23 5 + 1))) 0 16 0, (wa, t.2))) = _
        rw [zup_na (by decide), zupE rfl rfl, d5, zw_id (by omega) (by omega)]
      have hk := k_lines_v hx2
      generalize hF : zup (zup (zup fd 23 5 (f 1465 0 + 1)) 0 16 0) 1478 0 (f 1465 0 + 1) = F at hk
      have fF : ∀ o k, (o = 0 → k ≠ 12 ∧ k ≠ 13 ∧ k ≠ 16) → (o < 23 ∨ 213 ≤ o) → o ≠ 309 → o ≠ 311 → o ≠ 312 → o ≠ 1478 → F o k = f o k := fun o k h0 h1 h2 h3 h4 h5 => by
        rw [← hF, zup_na h5, zup_nka (by omega), zup_na (by omega), frd o k (by omega), zup_nka (by omega), frc0 o k (by omega) h2 h3 h4 (by omega)]
      obtain ⟨h2, cc, rr, hfr, h28, h212, h217⟩ := ref F (wa, t.2) (fun o k o0 o1 => fF o k (by omega) (by omega) (by omega) (by omega) (by omega) o1)
      rw [ok] at h212
      generalize hg2 : zup1 x.2.2 0 (f 1465 0 + 1) = g2
      have hm : zM (true, q) 1899 86 [(20, 1464, 0)] (F, (wa, t.2)) = some ((0, f 1465 0 + 1, 0), (zrow (zup (zup h2 1464 0 0) 1464 6 0) 1465 g2, (wa, t.2))) := by
        rw [rr, zb_M_lines_7]
        simp (disch := omega) only [zrow_ne]
        rw [if_pos h212, zb_M_lines_15, zG2 (by decide) (by decide)]
        simp (disch := omega) only [Int.reduceAdd, zrow_r]
        rw [zb_M_lines_19, if_pos (by omega), zb_M_lines_23]
        simp (disch := omega) only [zrow_up, zrow_ne, zupE]
        rw [if_pos (by decide), zb_M_lines_32, zG2 (by decide) (by decide)]
        simp (disch := omega) only [Int.reduceAdd, zrow_r]
        rw [zb_M_lines_37, zG2 (by decide) (by decide)]
        simp (disch := omega) only [zrow_in]
        rw [x0, zw_id (by omega) (by omega), hg2, zb_M_lines_40, zG2 (by decide) (by decide)]
        simp (disch := omega) only [Int.reduceAdd, zrow_up, zrow_r]
        rw [zb_M_lines_47, ← hg2, zup1_eq rfl]
      generalize hH : zrow (zup (zup h2 1464 0 0) 1464 6 0) 1465 g2 = H at hm
      have H5 : H 1465 = g2 := by rw [← hH, zrow_r]
      have Ho : ∀ o k, o ≠ 1465 → o ≠ 1467 → (o ≠ 1464 ∨ (k ≠ 0 ∧ k ≠ 6 ∧ (k < 8 ∨ 13 < k))) → H o k = F o k := fun o k a b e => by
        rw [← hH, zrow_ne a, zup_nka (by omega), zup_nka (by omega)]
        exact hfr o k a b (by omega)
      have Hof : ∀ o k, 1464 ≤ o → o ≠ 1465 → o ≠ 1467 → o ≠ 1478 → (o ≠ 1464 ∨ (k ≠ 0 ∧ k ≠ 6 ∧ (k < 8 ∨ 13 < k))) → H o k = f o k := fun o k a b b2 b3 e => by
        rw [Ho o k b b2 e, fF o k (by omega) (by omega) (by omega) (by omega) (by omega) b3]
      have H6 : H 1464 6 = 0 := by rw [← hH, zrow_ne (by decide), zupE rfl rfl]
      have H8 : H 1464 8 = 0 := by
        rw [← hH, zrow_ne (by decide), zup_nk (by decide), zup_nk (by decide)]
        exact h28
      have H12 : H 1464 12 = -1 := by
        rw [← hH, zrow_ne (by decide), zup_nk (by decide), zup_nk (by decide)]
        exact h212
      have H00 : H 1464 0 = 0 := by
        rw [← hH, zrow_ne (by decide), zup_nk (by decide), zupE rfl rfl]
      have F12 : F 0 12 = 0 := by
        rw [← hF, zup_na (by decide), zup_nk (by decide), zup_na (by decide), frd _ _ (by omega), zup_nk (by decide)]
        exact c12
      have F13 : F 0 13 = -1 := by
        rw [← hF, zup_na (by decide), zup_nk (by decide), zup_na (by decide), frd _ _ (by omega), zupE rfl rfl]
      have F16 : F 0 16 = 0 := by
        rw [← hF, zup_na (by decide), zupE rfl rfl]
      have ge : ∀ j, (j = 1 ∨ j = 2 ∨ 1310 ≤ j) → g2 j = f 1465 j := fun j hj => by
        rw [← hg2, zup1_ne (by omega)]
        exact v2 j (by omega)
      have R : ZR (N + 240) F H := by
        refine ⟨by omega, ?_, ?_, ⟨by rw [H8, F12], by omega, by omega, fun k k0 k1 => by omega⟩, zRI_mono (by omega) (zRI_c (f := f) (h := f) (fun o k ho => fF o k (by omega) (by omega) (by omega) (by omega) (by omega) (by omega)) (Hof _ _ (by decide) (by decide) (by decide) (by decide) (by omega)) (funext fun k => Hof _ _ (by decide) (by decide) (by decide) (by decide) (by omega)) r4), ⟨by omega, by omega, by rw [F16, H6], ?_, ?_, fun i i0 i1 => by omega⟩, by rw [F13, H12], zB3_fr (fun k k0 k1 => Hof _ _ (by decide) (by decide) (by decide) (by decide) (by omega)) r6.2⟩
        · rw [H5, ← hg2]
          refine zRW_c (f := zup fd 23 5 (f 1465 0 + 1)) (fun o k o0 o1 o2 => ?_) (zRW_0 (by omega) Gd Ld (gInv_mono (by omega) v1))
          rw [← hF, zup_na (by omega), zup_na (by omega)]
        · rw [H5]
          exact zRL_g ge (zRL_c (fun o k o0 o1 => fF o k (by omega) (by omega) (by omega) (by omega) (by omega) (by omega)) r2)
        · rw [fF 0 15 (by omega) (by omega) (by omega) (by omega) (by omega) (by omega)]
          exact r5.2.2.2.1
        · rw [fF 0 15 (by omega) (by omega) (by omega) (by omega) (by omega) (by omega)]
          exact r5.2.2.2.2.1
      refine ⟨0, f 1465 0 + 1, F, (wa, t.2), H, hk, hm, H00, fun _ => ?_, ZR_c (fun o k ho => ?_) zHk_refl R, zTt_refl⟩
      · rw [Ho _ _ (by decide) (by decide) (by omega), ← hF, zupE rfl rfl]
      · exact Ho o k (by omega) (by omega) (by omega)
    · refine thr 2 (k_lines_101 ?_) (by decide) (fun h2 c s h12 => ?_)
      · rw [run0, zb_X_lines_12]
        show (if zup fc 0 13 (fc 309 5) 0 13 = -1 then zD (true, q) 1898 zc_X_lines (zat zc_X_lines 26) _ _ (zup fc 0 13 (fc 309 5), (wa, t.2)) else _) = _
        rw [e5, zupE rfl rfl, if_pos ok, zb_X_lines_26]
        show (if zup fc 0 13 x.1 23 5 < 12 then _ else zD (true, q) 1898 zc_X_lines (zat zc_X_lines 31) _ _ (zup fc 0 13 x.1, (wa, t.2))) = _
        rw [zup_na (by decide), e35, if_neg c0, zb_X_lines_31]
        rfl
      · rw [zb_M_lines_7]
        simp (disch := omega) only [zrow_ne]
        rw [if_pos (h12.trans ok), zb_M_lines_15, zG2 (by decide) (by decide)]
        simp (disch := omega) only [Int.reduceAdd, zrow_r]
        rw [zb_M_lines_19, if_neg (by omega), zb_M_lines_21]
        simp (disch := omega) only [zrow_up, zrow_ne, zupE]
        rw [if_neg (by decide)]
  · refine thr 1 (k_lines_100 ?_) (by decide) (fun h2 c s h12 => ?_)
    · rw [run0, zb_X_lines_12]
      show (if zup fc 0 13 (fc 309 5) 0 13 = -1 then _ else zD (true, q) 1898 zc_X_lines (zat zc_X_lines 21) _ _ (zup fc 0 13 (fc 309 5), (wa, t.2))) = _
      rw [e5, zupE rfl rfl, if_neg ok, zb_X_lines_21]
      rfl
    · rw [zb_M_lines_7]
      simp (disch := omega) only [zrow_ne]
      rw [if_neg (by omega), zb_M_lines_13]
      simp (disch := omega) only [zrow_up, zrow_ne, zupE]
      rw [if_neg (by decide)]

