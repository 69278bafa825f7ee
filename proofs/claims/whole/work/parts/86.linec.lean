/-! ## the class reads a line of the law -/
def zLF (F f : Int → Int → Int) (a T i b : Int) : Prop := (∀ o k, (o ≠ T ∨ (k ≠ 4 ∧ k ≠ 5)) → (o ≠ a ∨ (k ≠ 6 ∧ k ≠ 7)) → ¬(a + 1 ≤ o ∧ o ≤ a + 5) → f o k = F o k) ∧ (∀ o k, a + 1 ≤ o → o ≤ a + 4 → k < i → f o k = F o k) ∧ (∀ j, j < b → f (a + 5) j = F (a + 5) j) ∧ b ≤ f a 7 ∧ f a 7 ≤ 400
theorem zLF_fp {F f f2 : Int → Int → Int} {a T i b : Int} (ha : a + 7 ≤ T) (e : zFP T f f2) (h : zLF F f a T i b) : zLF F f2 a T i b := by
  obtain ⟨h1, h2, h3, h4, h5⟩ := h
  have s7 : f2 a 7 = f a 7 := e _ _ (by omega)
  exact ⟨fun o k o1 o2 o3 => (e _ _ o1).trans (h1 o k o1 o2 o3), fun o k o1 o2 hk => (e _ _ (by omega)).trans (h2 o k o1 o2 hk), fun j hj => (e _ _ (by omega)).trans (h3 j hj), by omega, by omega⟩
theorem zLF_put {F f : Int → Int → Int} {a T i b r v : Int} (h1 : a + 1 ≤ r) (h2 : r ≤ a + 4) (h : zLF F f a T i b) : zLF F (zup f r i v) a T i b := by
  obtain ⟨g1, g2, g3, g4, g5⟩ := h
  refine ⟨fun o k o1 o2 o3 => ?_, fun o k o1 o2 hk => ?_, fun j hj => ?_, ?_, ?_⟩
  · rw [zup_na (by omega)]
    exact g1 o k o1 o2 o3
  · rw [zup_nk (by omega)]
    exact g2 o k o1 o2 hk
  · rw [zup_na (by omega)]
    exact g3 j hj
  · rw [zup_na (by omega)]
    exact g4
  · rw [zup_na (by omega)]
    exact g5
theorem zLF_6 {F f : Int → Int → Int} {a T i b v : Int} (h : zLF F f a T i b) : zLF F (zup f a 6 v) a T i b := by
  obtain ⟨g1, g2, g3, g4, g5⟩ := h
  refine ⟨fun o k o1 o2 o3 => ?_, fun o k o1 o2 hk => ?_, fun j hj => ?_, ?_, ?_⟩
  · rw [zup_nka (by omega)]
    exact g1 o k o1 o2 o3
  · rw [zup_na (by omega)]
    exact g2 o k o1 o2 hk
  · rw [zup_na (by omega)]
    exact g3 j hj
  · rw [zup_nk (by decide)]
    exact g4
  · rw [zup_nk (by decide)]
    exact g5
theorem zLF_ce {F f f2 : Int → Int → Int} {a T i b : Int} (ha : a + 7 ≤ T) (e : zCE f f2 a T (f a 7)) (h : zLF F f a T i b) : zLF F f2 a T i b := by
  obtain ⟨h1, h2, h3, h4, h5⟩ := h
  obtain ⟨e1, e2, e3, e4⟩ := e
  exact ⟨fun o k o1 o2 o3 => (e1 o k o1 (by omega) (by omega)).trans (h1 o k o1 o2 o3), fun o k o1 o2 hk => (e1 o k (by omega) (by omega) (by omega)).trans (h2 o k o1 o2 hk), fun j hj => (e2 j (by omega)).trans (h3 j hj), by omega, e4⟩
theorem zTC_up {f : Int → Int → Int} {w : Int → Int} {T n p e o k v : Int} {u : Int → Int} (ho : o < T) (h : zTC f w T u n p e) : zTC (zup f o k v) w T u n p e := by
  obtain ⟨h1, h2, h3, h4, h5⟩ := h
  have r : ∀ x, T ≤ x → zup f o k v x = f x := fun x hx => zup_row (by omega)
  refine ⟨zTS_fp (fun o2 k2 hh => by rw [r o2 (by omega)]) h1, ?_, ?_, ?_, ?_⟩
  · rw [r T (by omega)]; exact h2
  · rw [r T (by omega)]; exact h3
  · rw [r T (by omega), r (T + 2) (by omega)]; exact h4
  · rw [r T (by omega)]; exact h5
/-- the line's kind -/
theorem lc_kind {q : Int × (Int → Int)} {d : Nat} {t : (Int → Int) × Nat × Nat × Nat × (Int → Int → Bool)} {f : Int → Int → Int} {a T n p i b : Int} {u : Int → Int} (ha : a + 7 ≤ T) (hT : zTC f t.1 T u n p (-1)) (h6 : f a 6 = i) (i0 : 0 ≤ i) (i1 : i < 12) (hb : f a 7 = b) (b4 : b ≤ 400) : ∃ f2 kd, zM (true, q) (d + 18) 92 [(12, a, 0), (15, T, 0)] (f, t) = zD (true, q) (d + 18) zc_Law_readLine (zat zc_Law_readLine 25) [(12, a, 0), (15, T, 0), (0, kd, 0)] [] (f2, t) ∧ zLF f f2 a T i b ∧ f2 a 6 = i ∧ f2 a 7 = b ∧ f2 (a + 1) i = kd ∧ (pKd (txT u n p) ≠ -1 → kd = pKd (txT u n p) ∧ zTC f2 t.1 T u n (txN u n p) (-1)) ∧ (pKd (txT u n p) = -1 → zTC f2 t.1 T u n p p) := by
  have hp := zTC_p hT
  have L0 : zLF f f a T i b := ⟨fun _ _ _ _ _ => rfl, fun _ _ _ _ _ => rfl, fun _ _ => rfl, by omega, by omega⟩
  have fin : ∀ (f1 : Int → Int → Int) (kd : Int) (p2 e : Int), zLF f f1 a T i b → f1 a 6 = i → f1 a 7 = b → zTC f1 t.1 T u n p2 e → zM (true, q) (d + 17) 15 [(30, a + 1, 12), (0, f1 a 6, 0), (0, kd, 0)] (f1, t) = some ((9, 0, 0), (zup f1 (a + 1) i kd, t)) ∧ zLF f (zup f1 (a + 1) i kd) a T i b ∧ zup f1 (a + 1) i kd a 6 = i ∧ zup f1 (a + 1) i kd a 7 = b ∧ zup f1 (a + 1) i kd (a + 1) i = kd ∧ zTC (zup f1 (a + 1) i kd) t.1 T u n p2 e := by
    intro f1 kd p2 e hL s6 s7 hT1
    refine ⟨by rw [s6]; exact s_put i0 i1, zLF_put (by omega) (by omega) hL, ?_, ?_, zupE rfl rfl, zTC_up (by omega) hT1⟩
    · rw [zup_na (by omega)]; exact s6
    · rw [zup_na (by omega)]; exact s7
  obtain ⟨f1, r1, T1, fr1⟩ := c_passes (q := q) (d := d + 16) (σ := (f, t)) (W := 20) hT (by decide)
  by_cases c20 : txT u n p = 20
  · rw [if_pos ⟨rfl, c20⟩] at r1 T1
    have r1 : zM (true, q) (d + 17) 47 [(15, T, 0), (5, 20, 0)] (f, t) = some ((0, 1, 0), (f1, t)) := r1
    obtain ⟨r2, L2, s6, s7, s1, T2⟩ := fin f1 1 _ _ (zLF_fp ha fr1 L0) ((fr1 _ _ (by omega)).trans h6) ((fr1 _ _ (by omega)).trans hb) T1
    refine ⟨_, 1, ?_, L2, s6, s7, s1, fun _ => ⟨by rw [c20]; decide, T2⟩, fun z => ?_⟩
    · rw [ze_Law_readLine, zb_Law_readLine_0, r1, zK_i, zb_Law_readLine_5, if_neg (by decide), zb_Law_readLine_6]
      show zK _ _ _ _ _ _ (zM (true, q) (d + 17) 15 [(30, a + 1, 12), (0, f1 a 6, 0), (0, 1, 0)] (f1, t)) = _
      rw [r2, zK_v]
    · rw [c20] at z
      exact absurd z (by decide)
  · rw [if_neg (fun z => c20 z.2)] at r1 T1
    have r1 : zM (true, q) (d + 17) 47 [(15, T, 0), (5, 20, 0)] (f, t) = some ((0, 0, 0), (f1, t)) := r1
    obtain ⟨f2, r2, T2, fr2⟩ := c_passes (q := q) (d := d + 16) (σ := (f1, t)) (W := 21) T1 (by decide)
    have fr := zFP_trans fr1 fr2
    by_cases c21 : txT u n p = 21
    · rw [if_pos ⟨rfl, c21⟩] at r2 T2
      have r2 : zM (true, q) (d + 17) 47 [(15, T, 0), (5, 21, 0)] (f1, t) = some ((0, 1, 0), (f2, t)) := r2
      obtain ⟨r3, L3, s6, s7, s1, T3⟩ := fin f2 2 _ _ (zLF_fp ha fr L0) ((fr _ _ (by omega)).trans h6) ((fr _ _ (by omega)).trans hb) T2
      refine ⟨_, 2, ?_, L3, s6, s7, s1, fun _ => ⟨by rw [c21]; decide, T3⟩, fun z => ?_⟩
      · rw [ze_Law_readLine, zb_Law_readLine_0, r1, zK_i, zb_Law_readLine_5, if_pos rfl, zb_Law_readLine_9, r2, zK_i, zb_Law_readLine_12, if_neg (by decide), zb_Law_readLine_13]
        show zK _ _ _ _ _ _ (zM (true, q) (d + 17) 15 [(30, a + 1, 12), (0, f2 a 6, 0), (0, 2, 0)] (f2, t)) = _
        rw [r3, zK_v]
      · rw [c21] at z
        exact absurd z (by decide)
    · rw [if_neg (fun z => c21 z.2)] at r2 T2
      have r2 : zM (true, q) (d + 17) 47 [(15, T, 0), (5, 21, 0)] (f1, t) = some ((0, 0, 0), (f2, t)) := r2
      obtain ⟨f3, r3, T3, fr3⟩ := c_needs (q := q) (d := d + 15) (σ := (f2, t)) (W := 19) T2 (by decide)
      have r3 : zM (true, q) (d + 17) 49 [(15, T, 0), (5, 19, 0)] (f2, t) = some ((9, 0, 0), (f3, t)) := r3
      have fr := zFP_trans fr fr3
      obtain ⟨r4, L4, s6, s7, s1, T4⟩ := fin f3 0 _ _ (zLF_fp ha fr L0) ((fr _ _ (by omega)).trans h6) ((fr _ _ (by omega)).trans hb) T3
      refine ⟨_, 0, ?_, L4, s6, s7, s1, fun z => ?_, fun z => ?_⟩
      · rw [ze_Law_readLine, zb_Law_readLine_0, r1, zK_i, zb_Law_readLine_5, if_pos rfl, zb_Law_readLine_9, r2, zK_i, zb_Law_readLine_12, if_pos rfl, zb_Law_readLine_16, r3, zK_v, zb_Law_readLine_19]
        show zK _ _ _ _ _ _ (zM (true, q) (d + 17) 15 [(30, a + 1, 12), (0, f3 a 6, 0), (0, 0, 0)] (f3, t)) = _
        rw [r4, zK_v]
      · have c19 : txT u n p = 19 := by
          unfold pKd at z
          by_cases c : txT u n p = 19
          · exact c
          · rw [if_neg c, if_neg c20, if_neg c21] at z
            exact absurd rfl z
        rw [if_pos ⟨rfl, c19⟩, if_neg (fun z => z.2 c19)] at T4
        exact ⟨by rw [c19]; decide, T4⟩
      · have c19 : txT u n p ≠ 19 := fun c => by
          rw [c] at z
          exact absurd z (by decide)
        rw [if_neg (fun z => c19 z.2), if_pos ⟨rfl, c19⟩] at T4
        exact T4
/-- the line's end -/
theorem lc_l49 {q : Int × (Int → Int)} {d : Nat} {t : (Int → Int) × Nat × Nat × Nat × (Int → Int → Bool)} {F f : Int → Int → Int} {a T n p i b e kd : Int} {u : Int → Int} (ha : a + 7 ≤ T) (hT : zTC f t.1 T u n p e) (h6 : f a 6 = i) (i0 : 0 ≤ i) (i1 : i < 12) (hL : zLF F f a T i b) : ∃ f2, zD (true, q) (d + 18) zc_Law_readLine (zat zc_Law_readLine 49) [(12, a, 0), (15, T, 0), (0, kd, 0)] [] (f, t) = some ((9, 0, 0), (f2, t)) ∧ zLF F f2 a T i b ∧ f2 a 6 = i + 1 ∧ f2 a 7 = f a 7 ∧ f2 (a + 4) i = f a 7 ∧ (∀ o, a + 1 ≤ o → o ≤ a + 5 → o ≠ a + 4 → f2 o = f o) ∧ zTC f2 t.1 T u n p e := by
  refine ⟨zup (zup f (a + 4) i (f a 7)) a 6 (i + 1), ?_, zLF_6 (zLF_put (by omega) (by omega) hL), zupE rfl rfl, ?_, ?_, fun o o1 o2 o3 => ?_, zTC_up (by omega) (zTC_up (by omega) hT)⟩
  · rw [zb_Law_readLine_49]
    show zK _ _ _ _ _ _ (zM (true, q) (d + 17) 15 [(30, a + 4, 12), (0, f a 6, 0), (0, f a 7, 0)] (f, t)) = _
    rw [h6, s_put i0 i1, zK_v, zb_Law_readLine_56]
    show some ((9, 0, 0), (zup (zup f (a + 4) i (f a 7)) a 6 (zw (zup f (a + 4) i (f a 7) a 6 + 1)), t)) = _
    rw [zup_na (by omega), h6, zw_id (by omega) (by omega)]
  · rw [zup_nk (by decide), zup_na (by omega)]
  · rw [zup_na (by omega), zupE rfl rfl]
  · rw [zup_row (by omega), zup_row (by omega)]
theorem c_lineR {q : Int × (Int → Int)} {d : Nat} {t : (Int → Int) × Nat × Nat × Nat × (Int → Int → Bool)} {f : Int → Int → Int} {a T n p i b : Int} {u : Int → Int} (ha : a + 7 ≤ T) (hT : zTC f t.1 T u n p (-1)) (h6 : f a 6 = i) (i0 : 0 ≤ i) (i1 : i < 12) (hb : f a 7 = b) (b0 : 0 ≤ b) (bp : b ≤ p) : ∃ f2, zM (true, q) (d + 18) 92 [(12, a, 0), (15, T, 0)] (f, t) = some ((9, 0, 0), (f2, t)) ∧ zLF f f2 a T i b ∧ f2 a 6 = i + 1 ∧ ((pLn u n p).1 = true → zTC f2 t.1 T u n (pLn u n p).2.1 (-1) ∧ f2 (a + 1) i = (pLn u n p).2.2.1 ∧ f2 (a + 2) i = (pLn u n p).2.2.2.1 ∧ zSeg (f2 (a + 5)) (pLn u n p).2.2.2.2 (f2 (a + 3) i) (f2 (a + 4) i) ∧ zCok (pLn u n p).2.2.2.2 ∧ f2 (a + 4) i = f2 a 7 ∧ f2 a 7 ≤ (pLn u n p).2.1) ∧ ((pLn u n p).1 ≠ true → (pLn u n p).2.1 ≠ -1 ∧ ∃ p2, zTC f2 t.1 T u n p2 (pLn u n p).2.1) := by
  have hp := zTC_p hT
  obtain ⟨f1, kd, r1, L1, s6, s7, s1, A1, B1⟩ := lc_kind (q := q) (d := d) ha hT h6 i0 i1 hb (by omega)
  -- where the kind stands and where it fails
  have key : ∀ (p1 e : Int), zTC f1 t.1 T u n p1 e → b ≤ p1 → ∃ f2, zD (true, q) (d + 18) zc_Law_readLine (zat zc_Law_readLine 25) [(12, a, 0), (15, T, 0), (0, kd, 0)] [] (f1, t) = some ((9, 0, 0), (f2, t)) ∧ zLF f f2 a T i b ∧ f2 a 6 = i + 1 ∧ f2 (a + 1) i = kd ∧ (e ≠ -1 → ∃ p2, zTC f2 t.1 T u n p2 e) ∧ (e = -1 → ¬(txT u n p1 = 2 ∧ 0 ≤ txV u n p1 ∧ txV u n p1 ≤ 99) → ∃ p2, zTC f2 t.1 T u n p2 p1) ∧ (e = -1 → (txT u n p1 = 2 ∧ 0 ≤ txV u n p1 ∧ txV u n p1 ≤ 99) → f2 (a + 2) i = txV u n p1 ∧ (txT u n (txN u n p1) ≠ 22 → zTC f2 t.1 T u n (txN u n p1) (-1) ∧ f2 (a + 3) i = b ∧ f2 (a + 4) i = b ∧ f2 a 7 = b) ∧ (txT u n (txN u n p1) = 22 → f2 (a + 4) i = f2 a 7 ∧ f2 (a + 3) i = b ∧ f2 a 7 ≤ 400 ∧ ∃ f4 f5, f4 a 7 = b ∧ f2 (a + 5) = f5 (a + 5) ∧ f2 a 7 = f5 a 7 ∧ CX f4 f5 t.1 a T u n b (pSo u n (pAt u n 6) (txN u n (txN u n p1))) ∧ ((pSo u n (pAt u n 6) (txN u n (txN u n p1))).1 = true → zTC f2 t.1 T u n (pSo u n (pAt u n 6) (txN u n (txN u n p1))).2.1 (-1)) ∧ ((pSo u n (pAt u n 6) (txN u n (txN u n p1))).1 ≠ true → ∃ p2, zTC f2 t.1 T u n p2 (pSo u n (pAt u n 6) (txN u n (txN u n p1))).2.1))) := by
    intro p1 e T1 bp1
    have hp1 := zTC_p T1
    obtain ⟨f2, r2, T2, fr2⟩ := c_number (q := q) (d := d + 16) (σ := (f1, t)) (lo := 0) (hi := 99) T1
    generalize hv : (if e = -1 ∧ (txT u n p1 = 2 ∧ 0 ≤ txV u n p1 ∧ txV u n p1 ≤ 99) then txV u n p1 else 0) = v at r2
    have r2 : zM (true, q) (d + 17) 48 [(15, T, 0), (0, 0, 0), (0, 99, 0)] (f1, t) = some ((0, v, 0), (f2, t)) := r2
    have L2 := zLF_fp ha fr2 L1
    have q6 : f2 a 6 = i := (fr2 _ _ (by omega)).trans s6
    have q7 : f2 a 7 = b := (fr2 _ _ (by omega)).trans s7
    have q1 : f2 (a + 1) i = kd := (fr2 _ _ (by omega)).trans s1
    have g7 : zup f2 (a + 2) i v a 7 = b := by rw [zup_na (by omega)]; exact q7
    have g6 : zup f2 (a + 2) i v a 6 = i := by rw [zup_na (by omega)]; exact q6
    generalize hp2 : (if e = -1 ∧ (txT u n p1 = 2 ∧ 0 ≤ txV u n p1 ∧ txV u n p1 ≤ 99) then txN u n p1 else p1) = p2 at T2
    generalize he2 : (if e = -1 ∧ ¬(txT u n p1 = 2 ∧ 0 ≤ txV u n p1 ∧ txV u n p1 ≤ 99) then p1 else e) = e2 at T2
    have T3 := zTC_up (o := a + 3) (k := i) (v := b) (by omega) (zTC_up (o := a + 2) (k := i) (v := v) (by omega) T2)
    have L3 := zLF_put (r := a + 3) (v := b) (by omega) (by omega) (zLF_put (r := a + 2) (v := v) (by omega) (by omega) L2)
    obtain ⟨f4, r4, T4, fr4⟩ := c_passes (q := q) (d := d + 16) (σ := (zup (zup f2 (a + 2) i v) (a + 3) i b, t)) (W := 22) T3 (by decide)
    have L4 := zLF_fp ha fr4 L3
    have fr4 : zFP T (zup (zup f2 (a + 2) i v) (a + 3) i b) f4 := fr4
    have k6 : f4 a 6 = i := by rw [fr4 _ _ (by omega), zup_na (by omega)]; exact g6
    have k7 : f4 a 7 = b := by rw [fr4 _ _ (by omega), zup_na (by omega)]; exact g7
    have k1 : f4 (a + 1) i = kd := by rw [fr4 _ _ (by omega), zup_na (by omega), zup_na (by omega)]; exact q1
    have k2 : f4 (a + 2) i = v := by rw [fr4 _ _ (by omega), zup_na (by omega), zupE rfl rfl]
    have k3 : f4 (a + 3) i = b := by rw [fr4 _ _ (by omega), zupE rfl rfl]
    have r4 : zM (true, q) (d + 17) 47 [(15, T, 0), (5, 22, 0)] (zup (zup f2 (a + 2) i v) (a + 3) i b, t) = some ((0, if e2 = -1 ∧ txT u n p2 = 22 then 1 else 0, 0), (f4, t)) := r4
    have run : zD (true, q) (d + 18) zc_Law_readLine (zat zc_Law_readLine 25) [(12, a, 0), (15, T, 0), (0, kd, 0)] [] (f1, t) = zD (true, q) (d + 18) zc_Law_readLine (zat zc_Law_readLine 44) [(12, a, 0), (15, T, 0), (0, kd, 0)] [(0, if e2 = -1 ∧ txT u n p2 = 22 then 1 else 0, 0)] (f4, t) := by
      rw [zb_Law_readLine_25, r2, zK_i]
      show zD (true, q) (d + 18) zc_Law_readLine (zat zc_Law_readLine 33) [(12, a, 0), (15, T, 0), (0, kd, 0)] [(0, v, 0), (0, f1 a 6, 0), (30, a + 2, 12)] (f2, t) = _
      rw [s6, zb_Law_readLine_33, s_put i0 i1, zK_v, zb_Law_readLine_34]
      show zK _ _ _ _ _ _ (zM (true, q) (d + 17) 15 [(30, a + 3, 12), (0, zup f2 (a + 2) i v a 6, 0), (0, zup f2 (a + 2) i v a 7, 0)] (zup f2 (a + 2) i v, t)) = _
      rw [g6, g7, s_put i0 i1, zK_v, zb_Law_readLine_41, r4, zK_i]
    by_cases c22 : e2 = -1 ∧ txT u n p2 = 22
    · rw [if_pos c22] at run T4
      have hN := txN_rng (u := u) (txT_lt (u := u) (n := n) (p := p2) (by omega))
      have hbp : b ≤ p2 := by
        rw [← hp2]
        by_cases c : e = -1 ∧ (txT u n p1 = 2 ∧ 0 ≤ txV u n p1 ∧ txV u n p1 ≤ 99)
        · rw [if_pos c]
          have := txN_rng (u := u) (txT_lt (u := u) (n := n) (p := p1) (by omega))
          omega
        · rw [if_neg c]
          exact bp1
      rw [c22.1] at T4
      obtain ⟨f5, r5, x5⟩ := c_cond (q := q) (d := d) (e := 12) ha (show CAt q t a T u n (pAt u n 6) 0 (12 + 4) from c_atom ha 6 (by decide)) (pAt_go 6) (pAt_q 6) T4 (by omega) (by omega)
      have L5 := zLF_ce ha x5.1 L4
      have j6 : f5 a 6 = i := by rw [x5.1.1 _ _ (by omega) (by omega) (by omega)]; exact k6
      have j1 : f5 (a + 1) i = kd := by rw [x5.1.1 _ _ (by omega) (by omega) (by omega)]; exact k1
      have j2 : f5 (a + 2) i = v := by rw [x5.1.1 _ _ (by omega) (by omega) (by omega)]; exact k2
      have j3 : f5 (a + 3) i = b := by rw [x5.1.1 _ _ (by omega) (by omega) (by omega)]; exact k3
      have r5 : zM (true, q) (d + 17) 91 [(12, a, 0), (15, T, 0), (0, 0, 0)] (f4, t) = some ((9, 0, 0), (f5, t)) := r5
      have run2 : zD (true, q) (d + 18) zc_Law_readLine (zat zc_Law_readLine 25) [(12, a, 0), (15, T, 0), (0, kd, 0)] [] (f1, t) = zD (true, q) (d + 18) zc_Law_readLine (zat zc_Law_readLine 49) [(12, a, 0), (15, T, 0), (0, kd, 0)] [] (f5, t) := by
        rw [run, zb_Law_readLine_44, if_neg (by decide), zb_Law_readLine_45, r5, zK_v]
      have he : e = -1 ∧ (txT u n p1 = 2 ∧ 0 ≤ txV u n p1 ∧ txV u n p1 ≤ 99) := by
        by_cases c1 : e = -1
        · refine ⟨c1, ?_⟩
          apply Classical.byContradiction
          intro c2
          rw [if_pos ⟨c1, c2⟩] at he2
          omega
        · rw [if_neg (fun z => c1 z.1)] at he2
          omega
      rw [if_pos he] at hv hp2
      rw [k7] at x5
      rw [hp2]
      have fin : ∀ (p3 e3 : Int), zTC f5 t.1 T u n p3 e3 → ∃ f2, zD (true, q) (d + 18) zc_Law_readLine (zat zc_Law_readLine 25) [(12, a, 0), (15, T, 0), (0, kd, 0)] [] (f1, t) = some ((9, 0, 0), (f2, t)) ∧ zLF f f2 a T i b ∧ f2 a 6 = i + 1 ∧ f2 a 7 = f5 a 7 ∧ f2 (a + 4) i = f5 a 7 ∧ f2 (a + 1) i = kd ∧ f2 (a + 2) i = v ∧ f2 (a + 3) i = b ∧ f2 (a + 5) = f5 (a + 5) ∧ zTC f2 t.1 T u n p3 e3 := by
        intro p3 e3 T5
        obtain ⟨f6, r6, L6, m6, m7, m4, mm, T6⟩ := lc_l49 (q := q) (d := d) (kd := kd) ha T5 j6 i0 i1 L5
        exact ⟨f6, run2.trans r6, L6, m6, m7, m4, by rw [mm _ (by omega) (by omega) (by omega)]; exact j1, by rw [mm _ (by omega) (by omega) (by omega)]; exact j2, by rw [mm _ (by omega) (by omega) (by omega)]; exact j3, mm _ (by omega) (by omega) (by omega), T6⟩
      by_cases hx : (pSo u n (pAt u n 6) (txN u n p2)).1 = true
      · obtain ⟨f6, r6, L6, m6, m7, m4, m1, m2, m3, m5, T6⟩ := fin _ _ (x5.2.1 hx).1
        exact ⟨f6, r6, L6, m6, m1, fun z => absurd he.1 z, fun _ z => absurd he.2 z, fun _ _ => ⟨m2.trans hv.symm, fun z => absurd c22.2 z, fun _ => ⟨by omega, m3, by have := x5.1.2.2.2; omega, f4, f5, k7, m5, m7, x5, fun _ => T6, fun z => absurd hx z⟩⟩⟩
      · obtain ⟨_, p3, T5⟩ := x5.2.2 hx
        obtain ⟨f6, r6, L6, m6, m7, m4, m1, m2, m3, m5, T6⟩ := fin _ _ T5
        exact ⟨f6, r6, L6, m6, m1, fun z => absurd he.1 z, fun _ z => absurd he.2 z, fun _ _ => ⟨m2.trans hv.symm, fun z => absurd c22.2 z, fun _ => ⟨by omega, m3, by have := x5.1.2.2.2; omega, f4, f5, k7, m5, m7, x5, fun z => absurd z hx, fun _ => ⟨p3, T6⟩⟩⟩⟩
    · rw [if_neg c22] at run T4
      have run2 : zD (true, q) (d + 18) zc_Law_readLine (zat zc_Law_readLine 25) [(12, a, 0), (15, T, 0), (0, kd, 0)] [] (f1, t) = zD (true, q) (d + 18) zc_Law_readLine (zat zc_Law_readLine 49) [(12, a, 0), (15, T, 0), (0, kd, 0)] [] (f4, t) := by
        rw [run, zb_Law_readLine_44, if_pos rfl]
      obtain ⟨f6, r6, L6, m6, m7, m4, mm, T6⟩ := lc_l49 (q := q) (d := d) (kd := kd) ha T4 k6 i0 i1 L4
      have m1 : f6 (a + 1) i = kd := by rw [mm _ (by omega) (by omega) (by omega)]; exact k1
      have m2 : f6 (a + 2) i = v := by rw [mm _ (by omega) (by omega) (by omega)]; exact k2
      have m3 : f6 (a + 3) i = b := by rw [mm _ (by omega) (by omega) (by omega)]; exact k3
      refine ⟨f6, run2.trans r6, L6, m6, m1, fun z => ⟨p2, ?_⟩, fun z z2 => ⟨p2, ?_⟩, fun z z2 => ⟨?_, fun z3 => ⟨?_, m3, by omega, by omega⟩, fun z3 => ?_⟩⟩
      · rw [if_neg (fun y => z y.1)] at he2
        rw [he2]
        exact T6
      · rw [if_pos ⟨z, z2⟩] at he2
        rw [he2]
        exact T6
      · rw [if_pos ⟨z, z2⟩] at hv
        omega
      · rw [if_pos ⟨z, z2⟩] at hp2
        rw [if_neg (fun y => y.2 z2), z] at he2
        rw [hp2, he2]
        exact T6
      · exfalso
        rw [if_pos ⟨z, z2⟩] at hp2
        rw [if_neg (fun y => y.2 z2), z] at he2
        rw [hp2] at z3
        exact c22 ⟨he2.symm, z3⟩
  unfold pLn
  by_cases ck : pKd (txT u n p) = -1
  · rw [if_pos ck]
    obtain ⟨f2, r2, L2, m6, m1, X, _⟩ := key p p (B1 ck) bp
    exact ⟨f2, r1.trans r2, L2, m6, fun z => absurd z Bool.false_ne_true, fun _ => ⟨show p ≠ -1 by omega, X (by omega)⟩⟩
  · rw [if_neg ck]
    obtain ⟨hk, T1⟩ := A1 ck
    have hN := txN_rng (u := u) (txT_lt (u := u) (n := n) (p := p) (fun z => by rw [z] at ck; exact ck (by decide)))
    obtain ⟨f2, r2, L2, m6, m1, _, Y, Z⟩ := key (txN u n p) (-1) T1 (by omega)
    generalize txN u n p = p1 at *
    by_cases c2 : txT u n p1 = 2 ∧ 0 ≤ txV u n p1 ∧ txV u n p1 ≤ 99
    · rw [if_pos c2]
      obtain ⟨m2, Z1, Z2⟩ := Z rfl c2
      have hN1 := txN_rng (u := u) (txT_lt (u := u) (n := n) (p := p1) (by omega))
      by_cases c3 : txT u n (txN u n p1) = 22
      · rw [if_pos c3]
        obtain ⟨z4, z3, z7, f4, f5, y7, y5, y57, x5, W1, W2⟩ := Z2 c3
        have hN2 := txN_rng (u := u) (txT_lt (u := u) (n := n) (p := txN u n p1) (by omega))
        refine ⟨f2, r1.trans r2, L2, m6, fun hx => ⟨W1 hx, m1.trans hk, m2, ?_, zCok_so hx, z4, ?_⟩, fun hx => ⟨(x5.2.2 hx).1, W2 hx⟩⟩
        · show zSeg (f2 (a + 5)) _ (f2 (a + 3) i) (f2 (a + 4) i)
          rw [y5, z3, z4, y57]
          exact (x5.2.1 hx).2
        · have := CX_len (M := 3 + 2 * 6 + 2) x5 hx (pSo_q (pAt_go 6) (pAt_q 6) _)
          show f2 a 7 ≤ (pSo u n (pAt u n 6) (txN u n (txN u n p1))).2.1
          omega
      · rw [if_neg c3]
        obtain ⟨z5, z3, z4, z7⟩ := Z1 c3
        refine ⟨f2, r1.trans r2, L2, m6, fun hx => ⟨z5, m1.trans hk, m2, ?_, Or.inl rfl, by omega, ?_⟩, fun z => absurd rfl z⟩
        · show zSeg (f2 (a + 5)) [] (f2 (a + 3) i) (f2 (a + 4) i)
          rw [z3, z4]
          exact ⟨rfl, b0, by omega⟩
        · show f2 a 7 ≤ txN u n p1
          omega
    · rw [if_neg c2]
      exact ⟨f2, r1.trans r2, L2, m6, fun z => absurd z Bool.false_ne_true, fun _ => ⟨show p1 ≠ -1 by omega, Y rfl c2⟩⟩

