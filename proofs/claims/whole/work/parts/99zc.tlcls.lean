/-! ## a text of lines: the class, a line -/
def tN (f : Int → Int → Int) (b s no de un oc li : Int) : Prop := f b 4 = s ∧ f b 5 = no ∧ f b 6 = de ∧ f b 7 = un ∧ f b 8 = oc ∧ f b 9 = li ∧ (∀ c, 10 ≤ c → c < 19 → f b c = 0) ∧ f (b + 1) 4 = 0 ∧ f (b + 6) 4 = 0 ∧ (∀ k, 0 ≤ k → k < 4 → f (b + 12) k = 0) ∧ ∀ k, 0 ≤ k → k < 4 → f (b + 17) k = -1
theorem tN_fr {f f2 : Int → Int → Int} {b s no de un oc li : Int} (e : ∀ o k, b ≤ o → o < b + 18 → f2 o k = f o k) (h : tN f b s no de un oc li) : tN f2 b s no de un oc li := by
  obtain ⟨a4, a5, a6, a7, a8, a9, a10, a11, a12, a13, a14⟩ := h
  exact ⟨(e _ _ (by omega) (by omega)).trans a4, (e _ _ (by omega) (by omega)).trans a5, (e _ _ (by omega) (by omega)).trans a6, (e _ _ (by omega) (by omega)).trans a7, (e _ _ (by omega) (by omega)).trans a8, (e _ _ (by omega) (by omega)).trans a9, fun c c0 c1 => (e _ _ (by omega) (by omega)).trans (a10 c c0 c1), (e _ _ (by omega) (by omega)).trans a11, (e _ _ (by omega) (by omega)).trans a12, fun k k0 k1 => (e _ _ (by omega) (by omega)).trans (a13 k k0 k1), fun k k0 k1 => (e _ _ (by omega) (by omega)).trans (a14 k k0 k1)⟩
theorem tN_LC {f : Int → Int → Int} {b s no de un oc li B x y : Int} {g : Int → Int} (hx : x < B) (hd : de ≤ 4) (h : tN f b s no de un oc li) : zLC (zup1 (gNl g B s no de un oc li) x y (B + 2)) f b (zup1 (gNl g B s no de un oc li) x y) B := by
  obtain ⟨a4, a5, a6, a7, a8, a9, a10, a11, a12, a13, a14⟩ := h
  obtain ⟨b0, b1, b2, b3, b4, b5⟩ := gNl_at (g := g) (B := B) (s := s) (no := no) (de := de) (un := un) (oc := oc) (li := li)
  have mid : ∀ j, (6 ≤ j ∧ j < 69) ∨ (73 ≤ j ∧ j < 265) → zup1 (gNl g B s no de un oc li) x y (B + j) = 0 := fun j hj => (zup1_ne (by omega)).trans (gNl_mid hj)
  have e2 : zup1 (gNl g B s no de un oc li) x y (B + 2) = de := (zup1_ne (by omega)).trans b2
  refine ⟨fun c c0 c1 => ?_, a11.trans (mid 6 (by omega)).symm, a12.trans (mid 7 (by omega)).symm, fun k c k0 k1 => ?_, fun k c k0 k1 => ?_, fun k k0 k1 => ?_, fun k k0 k1 => ?_⟩
  · by_cases cc : c < 10
    · rcases (by omega : c = 4 ∨ c = 5 ∨ c = 6 ∨ c = 7 ∨ c = 8 ∨ c = 9) with rfl | rfl | rfl | rfl | rfl | rfl
      · exact a4.trans ((zup1_ne (by show B + 0 ≠ x; omega)).trans b0).symm
      · exact a5.trans ((zup1_ne (by show B + 1 ≠ x; omega)).trans b1).symm
      · exact a6.trans ((zup1_ne (by show B + 2 ≠ x; omega)).trans b2).symm
      · exact a7.trans ((zup1_ne (by show B + 3 ≠ x; omega)).trans b3).symm
      · exact a8.trans ((zup1_ne (by show B + 4 ≠ x; omega)).trans b4).symm
      · exact a9.trans ((zup1_ne (by show B + 5 ≠ x; omega)).trans b5).symm
    · rw [a10 c (by omega) c1, mid _ (by unfold zfm; rw [if_neg cc]; omega)]
  · rw [mid 7 (by omega)] at k1
    omega
  · rw [mid 6 (by omega)] at k1
    omega
  · rw [e2] at k1
    rw [mid (49 + 5 * k + 0) (by omega)]
    exact ⟨a13 k k0 (by omega), fun z => absurd rfl z, fun z => absurd z (by decide)⟩
  · rw [e2] at k1
    rw [a14 k k0 (by omega), zup1_ne (by omega), gNl_rep (by omega)]

theorem tN_4 {f : Int → Int → Int} {b s no de un oc li v : Int} (h : tN f b s no de un oc li) : tN (zup f b 4 v) b v no de un oc li := by
  obtain ⟨a4, a5, a6, a7, a8, a9, a10, a11, a12, a13, a14⟩ := h
  exact ⟨zupE rfl rfl, (zup_nk (by decide)).trans a5, (zup_nk (by decide)).trans a6, (zup_nk (by decide)).trans a7, (zup_nk (by decide)).trans a8, (zup_nk (by decide)).trans a9, fun c c0 c1 => (zup_nk (by omega)).trans (a10 c c0 c1), (zup_na (by omega)).trans a11, (zup_na (by omega)).trans a12, fun k k0 k1 => (zup_na (by omega)).trans (a13 k k0 k1), fun k k0 k1 => (zup_na (by omega)).trans (a14 k k0 k1)⟩
theorem tN_5 {f : Int → Int → Int} {b s no de un oc li v : Int} (h : tN f b s no de un oc li) : tN (zup f b 5 v) b s v de un oc li := by
  obtain ⟨a4, a5, a6, a7, a8, a9, a10, a11, a12, a13, a14⟩ := h
  exact ⟨(zup_nk (by decide)).trans a4, zupE rfl rfl, (zup_nk (by decide)).trans a6, (zup_nk (by decide)).trans a7, (zup_nk (by decide)).trans a8, (zup_nk (by decide)).trans a9, fun c c0 c1 => (zup_nk (by omega)).trans (a10 c c0 c1), (zup_na (by omega)).trans a11, (zup_na (by omega)).trans a12, fun k k0 k1 => (zup_na (by omega)).trans (a13 k k0 k1), fun k k0 k1 => (zup_na (by omega)).trans (a14 k k0 k1)⟩
theorem tN_6 {f : Int → Int → Int} {b s no de un oc li v : Int} (h : tN f b s no de un oc li) : tN (zup f b 6 v) b s no v un oc li := by
  obtain ⟨a4, a5, a6, a7, a8, a9, a10, a11, a12, a13, a14⟩ := h
  exact ⟨(zup_nk (by decide)).trans a4, (zup_nk (by decide)).trans a5, zupE rfl rfl, (zup_nk (by decide)).trans a7, (zup_nk (by decide)).trans a8, (zup_nk (by decide)).trans a9, fun c c0 c1 => (zup_nk (by omega)).trans (a10 c c0 c1), (zup_na (by omega)).trans a11, (zup_na (by omega)).trans a12, fun k k0 k1 => (zup_na (by omega)).trans (a13 k k0 k1), fun k k0 k1 => (zup_na (by omega)).trans (a14 k k0 k1)⟩
theorem tN_7 {f : Int → Int → Int} {b s no de un oc li v : Int} (h : tN f b s no de un oc li) : tN (zup f b 7 v) b s no de v oc li := by
  obtain ⟨a4, a5, a6, a7, a8, a9, a10, a11, a12, a13, a14⟩ := h
  exact ⟨(zup_nk (by decide)).trans a4, (zup_nk (by decide)).trans a5, (zup_nk (by decide)).trans a6, zupE rfl rfl, (zup_nk (by decide)).trans a8, (zup_nk (by decide)).trans a9, fun c c0 c1 => (zup_nk (by omega)).trans (a10 c c0 c1), (zup_na (by omega)).trans a11, (zup_na (by omega)).trans a12, fun k k0 k1 => (zup_na (by omega)).trans (a13 k k0 k1), fun k k0 k1 => (zup_na (by omega)).trans (a14 k k0 k1)⟩
theorem tN_8 {f : Int → Int → Int} {b s no de un oc li v : Int} (h : tN f b s no de un oc li) : tN (zup f b 8 v) b s no de un v li := by
  obtain ⟨a4, a5, a6, a7, a8, a9, a10, a11, a12, a13, a14⟩ := h
  exact ⟨(zup_nk (by decide)).trans a4, (zup_nk (by decide)).trans a5, (zup_nk (by decide)).trans a6, (zup_nk (by decide)).trans a7, zupE rfl rfl, (zup_nk (by decide)).trans a9, fun c c0 c1 => (zup_nk (by omega)).trans (a10 c c0 c1), (zup_na (by omega)).trans a11, (zup_na (by omega)).trans a12, fun k k0 k1 => (zup_na (by omega)).trans (a13 k k0 k1), fun k k0 k1 => (zup_na (by omega)).trans (a14 k k0 k1)⟩
theorem tN_9 {f : Int → Int → Int} {b s no de un oc li v : Int} (h : tN f b s no de un oc li) : tN (zup f b 9 v) b s no de un oc v := by
  obtain ⟨a4, a5, a6, a7, a8, a9, a10, a11, a12, a13, a14⟩ := h
  exact ⟨(zup_nk (by decide)).trans a4, (zup_nk (by decide)).trans a5, (zup_nk (by decide)).trans a6, (zup_nk (by decide)).trans a7, (zup_nk (by decide)).trans a8, zupE rfl rfl, fun c c0 c1 => (zup_nk (by omega)).trans (a10 c c0 c1), (zup_na (by omega)).trans a11, (zup_na (by omega)).trans a12, fun k k0 k1 => (zup_na (by omega)).trans (a13 k k0 k1), fun k k0 k1 => (zup_na (by omega)).trans (a14 k k0 k1)⟩
theorem c_makeNew {q : Int × (Int → Int)} {d : Nat} {σ : zS} {b : Int} : ∃ f2, zM (true, q) (d + 2) 6 [(13, b, 0)] σ = some ((9, 0, 0), (f2, σ.2)) ∧ tN f2 b 0 0 2 4 30 4 ∧ zFb b σ.1 f2 := by
  have key : ∀ s : zS, zM (true, q) (d + 1) 5 [(13, b, 0)] s = some ((9, 0, 0), (zfill (zfill (zup (zup (zup (zup (zup (zup (zup (zup (zup s.1 b 12 0) b 13 0) b 10 0) b 14 0) b 15 0) b 16 0) b 17 0) b 18 0) b 11 0) (b + 12) 0 4) (b + 17) (-1) 4, s.2)) := fun s => by
    rw [ze_Lin_beginAnew, zb_Lin_beginAnew_0, zG2 (by omega) (by omega), zb_Lin_beginAnew_27]
    try simp (disch := omega) only [Int.reduceAdd, Int.add_assoc, Int.zero_add]
    rw [s_clearRow (by omega) (by omega), zK_v, zb_Lin_beginAnew_32]
    try simp (disch := omega) only [Int.reduceAdd, Int.add_assoc, Int.zero_add]
    rw [s_clearRow (by omega) (by omega), zK_v, zb_Lin_beginAnew_36]
  have run : zM (true, q) (d + 2) 6 [(13, b, 0)] σ = zK (zD (true, q) (d + 1 + 1) zc_Lin_makeNew) zEx zc_Lin_makeNew (zat zc_Lin_makeNew 28) [(13, b, 0)] [] (zM (true, q) (d + 1) 5 [(13, b, 0)] (zup (zup (zup (zup (zup (zup (zup (zup σ.1 b 4 0) b 5 0) b 6 2) b 7 4) b 8 30) b 9 4) (b + 1) 4 0) (b + 6) 4 0, σ.2)) := by
    rw [ze_Lin_makeNew, zb_Lin_makeNew_0]
  rw [run, key, zK_v, zb_Lin_makeNew_28]
  refine ⟨_, rfl, ⟨?_, ?_, ?_, ?_, ?_, ?_, fun c c0 c1 => ?_, ?_, ?_, fun k k0 k1 => ?_, fun k k0 k1 => ?_⟩, fun o k ho => ?_⟩
  · simp (disch := omega) only [zfill_na, zup_nk, zup_na, zupE]
  · simp (disch := omega) only [zfill_na, zup_nk, zup_na, zupE]
  · simp (disch := omega) only [zfill_na, zup_nk, zup_na, zupE]
  · simp (disch := omega) only [zfill_na, zup_nk, zup_na, zupE]
  · simp (disch := omega) only [zfill_na, zup_nk, zup_na, zupE]
  · simp (disch := omega) only [zfill_na, zup_nk, zup_na, zupE]
  · rcases (by omega : c = 10 ∨ c = 11 ∨ c = 12 ∨ c = 13 ∨ c = 14 ∨ c = 15 ∨ c = 16 ∨ c = 17 ∨ c = 18) with rfl | rfl | rfl | rfl | rfl | rfl | rfl | rfl | rfl <;> simp (disch := omega) only [zfill_na, zup_nk, zup_na, zupE]
  · simp (disch := omega) only [zfill_na, zup_nk, zup_na, zupE]
  · simp (disch := omega) only [zfill_na, zup_nk, zup_na, zupE]
  · rw [zfill_na (by omega), zfill_in rfl (by omega) (by omega)]
  · rw [zfill_in rfl (by omega) (by omega)]
  · simp (disch := omega) only [zfill_na, zup_na]
def tF (T b : Int) (f f2 : Int → Int → Int) : Prop := ∀ o k, (o ≠ T ∨ (k ≠ 4 ∧ k ≠ 5)) → (o < b ∨ b + 18 ≤ o) → f2 o k = f o k
theorem tF_trans {T b : Int} {f f2 f3 : Int → Int → Int} (h : tF T b f f2) (h2 : tF T b f2 f3) : tF T b f f3 := fun o k a c => (h2 o k a c).trans (h o k a c)
theorem tF_p {T b : Int} {f f2 : Int → Int → Int} (h : zFP T f f2) : tF T b f f2 := fun o k a _ => h o k a
theorem tF_b {T b : Int} {f f2 : Int → Int → Int} (h : zFb b f f2) : tF T b f f2 := fun o k _ c => h o k c

theorem c_opt1 {q : Int × (Int → Int)} {d : Nat} {f : Int → Int → Int} {t : (Int → Int) × Nat × Nat × Nat × (Int → Int → Bool)} {u : Int → Int} {W T b n p e no de un oc li : Int} (hb : b + 18 ≤ T) (h : zTC f t.1 T u n p e) (hN : tN f b 0 no de un oc li) : ∃ v f2, zK (zD (true, q) (d + 3) zc_Wor_readLine) zEx zc_Wor_readLine (zat zc_Wor_readLine 19) [(18, W, 0), (15, T, 0), (13, b, 0)] [] (zM (true, q) (d + 2) 47 [(15, T, 0), (5, 10, 0)] (f, t)) = zK (zD (true, q) (d + 3) zc_Wor_readLine) zEx zc_Wor_readLine (zat zc_Wor_readLine 29) [(18, W, 0), (15, T, 0), (13, b, 0)] [] (zM (true, q) (d + 2) 47 [(15, T, 0), (5, 11, 0)] (f2, t)) ∧ zTC f2 t.1 T u n (pMb u n 10 0 100 e p).2 (pMb u n 10 0 100 e p).1 ∧ tN f2 b 0 v de un oc li ∧ ((pMb u n 10 0 100 e p).1 = -1 → v = pMv u n 10 no e p) ∧ tF T b f f2 := by
  obtain ⟨f1, r1, h1, fr1⟩ := c_passes (q := q) (d := d + 1) (σ := (f, t)) (W := 10) h (by decide)
  have N1 : tN f1 b 0 no de un oc li := tN_fr (fun o k o0 o1 => fr1 o k (by omega)) hN
  have r1 : zM (true, q) (d + 2) 47 [(15, T, 0), (5, 10, 0)] (f, t) = some ((0, if e = -1 ∧ txT u n p = 10 then 1 else 0, 0), (f1, t)) := r1
  rw [r1, zK_i, zb_Wor_readLine_19]
  unfold pMb pMv
  by_cases c : e = -1 ∧ txT u n p = 10
  · rw [if_pos c] at h1
    obtain ⟨f2, r2, h2, fr2⟩ := c_number (q := q) (d := d + 1) (σ := (f1, t)) (lo := 0) (hi := 100) h1
    have r2 : zM (true, q) (d + 2) 48 [(15, T, 0), (0, 0, 0), (0, 100, 0)] (f1, t) = _ := r2
    rw [if_pos c, if_neg (by decide), if_pos c, if_pos c, zb_Wor_readLine_20, r2, zK_i, zb_Wor_readLine_25]
    have N2 : tN f2 b 0 no de un oc li := tN_fr (fun o k o0 o1 => fr2 o k (by omega)) N1
    refine ⟨_, _, rfl, ?_, tN_5 N2, ?_, ?_⟩
    · by_cases c2 : txT u n (txN u n p) = 2 ∧ 0 ≤ txV u n (txN u n p) ∧ txV u n (txN u n p) ≤ 100
      · rw [if_pos ⟨c.1, c2⟩, if_neg (fun z => z.2 c2), c.1] at h2
        rw [if_pos c2]
        exact zTC_up (by omega) h2
      · rw [if_neg (fun z => c2 z.2), if_pos ⟨c.1, c2⟩] at h2
        rw [if_neg c2]
        exact zTC_up (by omega) h2
    · intro z
      by_cases c2 : txT u n (txN u n p) = 2 ∧ 0 ≤ txV u n (txN u n p) ∧ txV u n (txN u n p) ≤ 100
      · rw [if_pos ⟨c.1, c2⟩]
      · rw [if_neg c2] at z
        have z : txN u n p = -1 := z
        have := (zTC_p h1).1
        omega
    · exact tF_trans (tF_p fr1) (tF_trans (tF_p fr2) (tF_b (zFb_up (by omega))))
  · rw [if_neg c] at h1
    rw [if_neg c, if_pos rfl, if_neg c, if_neg c, zb_Wor_readLine_26]
    exact ⟨_, f1, rfl, h1, N1, fun _ => rfl, tF_p fr1⟩

theorem c_opt2 {q : Int × (Int → Int)} {d : Nat} {f : Int → Int → Int} {t : (Int → Int) × Nat × Nat × Nat × (Int → Int → Bool)} {u : Int → Int} {W T b n p e no de un oc li : Int} (hb : b + 18 ≤ T) (h : zTC f t.1 T u n p e) (hN : tN f b 0 no de un oc li) : ∃ v f2, zK (zD (true, q) (d + 3) zc_Wor_readLine) zEx zc_Wor_readLine (zat zc_Wor_readLine 29) [(18, W, 0), (15, T, 0), (13, b, 0)] [] (zM (true, q) (d + 2) 47 [(15, T, 0), (5, 11, 0)] (f, t)) = zK (zD (true, q) (d + 3) zc_Wor_readLine) zEx zc_Wor_readLine (zat zc_Wor_readLine 39) [(18, W, 0), (15, T, 0), (13, b, 0)] [] (zM (true, q) (d + 2) 47 [(15, T, 0), (5, 12, 0)] (f2, t)) ∧ zTC f2 t.1 T u n (pMb u n 11 1 4 e p).2 (pMb u n 11 1 4 e p).1 ∧ tN f2 b 0 no v un oc li ∧ ((pMb u n 11 1 4 e p).1 = -1 → v = pMv u n 11 de e p) ∧ tF T b f f2 := by
  obtain ⟨f1, r1, h1, fr1⟩ := c_passes (q := q) (d := d + 1) (σ := (f, t)) (W := 11) h (by decide)
  have N1 : tN f1 b 0 no de un oc li := tN_fr (fun o k o0 o1 => fr1 o k (by omega)) hN
  have r1 : zM (true, q) (d + 2) 47 [(15, T, 0), (5, 11, 0)] (f, t) = some ((0, if e = -1 ∧ txT u n p = 11 then 1 else 0, 0), (f1, t)) := r1
  rw [r1, zK_i, zb_Wor_readLine_29]
  unfold pMb pMv
  by_cases c : e = -1 ∧ txT u n p = 11
  · rw [if_pos c] at h1
    obtain ⟨f2, r2, h2, fr2⟩ := c_number (q := q) (d := d + 1) (σ := (f1, t)) (lo := 1) (hi := 4) h1
    have r2 : zM (true, q) (d + 2) 48 [(15, T, 0), (0, 1, 0), (0, 4, 0)] (f1, t) = _ := r2
    rw [if_pos c, if_neg (by decide), if_pos c, if_pos c, zb_Wor_readLine_30, r2, zK_i, zb_Wor_readLine_35]
    have N2 : tN f2 b 0 no de un oc li := tN_fr (fun o k o0 o1 => fr2 o k (by omega)) N1
    refine ⟨_, _, rfl, ?_, tN_6 N2, ?_, ?_⟩
    · by_cases c2 : txT u n (txN u n p) = 2 ∧ 1 ≤ txV u n (txN u n p) ∧ txV u n (txN u n p) ≤ 4
      · rw [if_pos ⟨c.1, c2⟩, if_neg (fun z => z.2 c2), c.1] at h2
        rw [if_pos c2]
        exact zTC_up (by omega) h2
      · rw [if_neg (fun z => c2 z.2), if_pos ⟨c.1, c2⟩] at h2
        rw [if_neg c2]
        exact zTC_up (by omega) h2
    · intro z
      by_cases c2 : txT u n (txN u n p) = 2 ∧ 1 ≤ txV u n (txN u n p) ∧ txV u n (txN u n p) ≤ 4
      · rw [if_pos ⟨c.1, c2⟩]
      · rw [if_neg c2] at z
        have z : txN u n p = -1 := z
        have := (zTC_p h1).1
        omega
    · exact tF_trans (tF_p fr1) (tF_trans (tF_p fr2) (tF_b (zFb_up (by omega))))
  · rw [if_neg c] at h1
    rw [if_neg c, if_pos rfl, if_neg c, if_neg c, zb_Wor_readLine_36]
    exact ⟨_, f1, rfl, h1, N1, fun _ => rfl, tF_p fr1⟩

theorem c_opt3 {q : Int × (Int → Int)} {d : Nat} {f : Int → Int → Int} {t : (Int → Int) × Nat × Nat × Nat × (Int → Int → Bool)} {u : Int → Int} {W T b n p e no de un oc li : Int} (hb : b + 18 ≤ T) (h : zTC f t.1 T u n p e) (hN : tN f b 0 no de un oc li) : ∃ v f2, zK (zD (true, q) (d + 3) zc_Wor_readLine) zEx zc_Wor_readLine (zat zc_Wor_readLine 39) [(18, W, 0), (15, T, 0), (13, b, 0)] [] (zM (true, q) (d + 2) 47 [(15, T, 0), (5, 12, 0)] (f, t)) = zK (zD (true, q) (d + 3) zc_Wor_readLine) zEx zc_Wor_readLine (zat zc_Wor_readLine 49) [(18, W, 0), (15, T, 0), (13, b, 0)] [] (zM (true, q) (d + 2) 47 [(15, T, 0), (5, 13, 0)] (f2, t)) ∧ zTC f2 t.1 T u n (pMb u n 12 1 8 e p).2 (pMb u n 12 1 8 e p).1 ∧ tN f2 b 0 no de v oc li ∧ ((pMb u n 12 1 8 e p).1 = -1 → v = pMv u n 12 un e p) ∧ tF T b f f2 := by
  obtain ⟨f1, r1, h1, fr1⟩ := c_passes (q := q) (d := d + 1) (σ := (f, t)) (W := 12) h (by decide)
  have N1 : tN f1 b 0 no de un oc li := tN_fr (fun o k o0 o1 => fr1 o k (by omega)) hN
  have r1 : zM (true, q) (d + 2) 47 [(15, T, 0), (5, 12, 0)] (f, t) = some ((0, if e = -1 ∧ txT u n p = 12 then 1 else 0, 0), (f1, t)) := r1
  rw [r1, zK_i, zb_Wor_readLine_39]
  unfold pMb pMv
  by_cases c : e = -1 ∧ txT u n p = 12
  · rw [if_pos c] at h1
    obtain ⟨f2, r2, h2, fr2⟩ := c_number (q := q) (d := d + 1) (σ := (f1, t)) (lo := 1) (hi := 8) h1
    have r2 : zM (true, q) (d + 2) 48 [(15, T, 0), (0, 1, 0), (0, 8, 0)] (f1, t) = _ := r2
    rw [if_pos c, if_neg (by decide), if_pos c, if_pos c, zb_Wor_readLine_40, r2, zK_i, zb_Wor_readLine_45]
    have N2 : tN f2 b 0 no de un oc li := tN_fr (fun o k o0 o1 => fr2 o k (by omega)) N1
    refine ⟨_, _, rfl, ?_, tN_7 N2, ?_, ?_⟩
    · by_cases c2 : txT u n (txN u n p) = 2 ∧ 1 ≤ txV u n (txN u n p) ∧ txV u n (txN u n p) ≤ 8
      · rw [if_pos ⟨c.1, c2⟩, if_neg (fun z => z.2 c2), c.1] at h2
        rw [if_pos c2]
        exact zTC_up (by omega) h2
      · rw [if_neg (fun z => c2 z.2), if_pos ⟨c.1, c2⟩] at h2
        rw [if_neg c2]
        exact zTC_up (by omega) h2
    · intro z
      by_cases c2 : txT u n (txN u n p) = 2 ∧ 1 ≤ txV u n (txN u n p) ∧ txV u n (txN u n p) ≤ 8
      · rw [if_pos ⟨c.1, c2⟩]
      · rw [if_neg c2] at z
        have z : txN u n p = -1 := z
        have := (zTC_p h1).1
        omega
    · exact tF_trans (tF_p fr1) (tF_trans (tF_p fr2) (tF_b (zFb_up (by omega))))
  · rw [if_neg c] at h1
    rw [if_neg c, if_pos rfl, if_neg c, if_neg c, zb_Wor_readLine_46]
    exact ⟨_, f1, rfl, h1, N1, fun _ => rfl, tF_p fr1⟩

theorem c_opt4 {q : Int × (Int → Int)} {d : Nat} {f : Int → Int → Int} {t : (Int → Int) × Nat × Nat × Nat × (Int → Int → Bool)} {u : Int → Int} {W T b n p e no de un oc li : Int} (hb : b + 18 ≤ T) (h : zTC f t.1 T u n p e) (hN : tN f b 0 no de un oc li) : ∃ v f2, zK (zD (true, q) (d + 3) zc_Wor_readLine) zEx zc_Wor_readLine (zat zc_Wor_readLine 49) [(18, W, 0), (15, T, 0), (13, b, 0)] [] (zM (true, q) (d + 2) 47 [(15, T, 0), (5, 13, 0)] (f, t)) = zK (zD (true, q) (d + 3) zc_Wor_readLine) zEx zc_Wor_readLine (zat zc_Wor_readLine 59) [(18, W, 0), (15, T, 0), (13, b, 0)] [] (zM (true, q) (d + 2) 47 [(15, T, 0), (5, 14, 0)] (f2, t)) ∧ zTC f2 t.1 T u n (pMb u n 13 9 60 e p).2 (pMb u n 13 9 60 e p).1 ∧ tN f2 b 0 no de un v li ∧ ((pMb u n 13 9 60 e p).1 = -1 → v = pMv u n 13 oc e p) ∧ tF T b f f2 := by
  obtain ⟨f1, r1, h1, fr1⟩ := c_passes (q := q) (d := d + 1) (σ := (f, t)) (W := 13) h (by decide)
  have N1 : tN f1 b 0 no de un oc li := tN_fr (fun o k o0 o1 => fr1 o k (by omega)) hN
  have r1 : zM (true, q) (d + 2) 47 [(15, T, 0), (5, 13, 0)] (f, t) = some ((0, if e = -1 ∧ txT u n p = 13 then 1 else 0, 0), (f1, t)) := r1
  rw [r1, zK_i, zb_Wor_readLine_49]
  unfold pMb pMv
  by_cases c : e = -1 ∧ txT u n p = 13
  · rw [if_pos c] at h1
    obtain ⟨f2, r2, h2, fr2⟩ := c_number (q := q) (d := d + 1) (σ := (f1, t)) (lo := 9) (hi := 60) h1
    have r2 : zM (true, q) (d + 2) 48 [(15, T, 0), (0, 9, 0), (0, 60, 0)] (f1, t) = _ := r2
    rw [if_pos c, if_neg (by decide), if_pos c, if_pos c, zb_Wor_readLine_50, r2, zK_i, zb_Wor_readLine_55]
    have N2 : tN f2 b 0 no de un oc li := tN_fr (fun o k o0 o1 => fr2 o k (by omega)) N1
    refine ⟨_, _, rfl, ?_, tN_8 N2, ?_, ?_⟩
    · by_cases c2 : txT u n (txN u n p) = 2 ∧ 9 ≤ txV u n (txN u n p) ∧ txV u n (txN u n p) ≤ 60
      · rw [if_pos ⟨c.1, c2⟩, if_neg (fun z => z.2 c2), c.1] at h2
        rw [if_pos c2]
        exact zTC_up (by omega) h2
      · rw [if_neg (fun z => c2 z.2), if_pos ⟨c.1, c2⟩] at h2
        rw [if_neg c2]
        exact zTC_up (by omega) h2
    · intro z
      by_cases c2 : txT u n (txN u n p) = 2 ∧ 9 ≤ txV u n (txN u n p) ∧ txV u n (txN u n p) ≤ 60
      · rw [if_pos ⟨c.1, c2⟩]
      · rw [if_neg c2] at z
        have z : txN u n p = -1 := z
        have := (zTC_p h1).1
        omega
    · exact tF_trans (tF_p fr1) (tF_trans (tF_p fr2) (tF_b (zFb_up (by omega))))
  · rw [if_neg c] at h1
    rw [if_neg c, if_pos rfl, if_neg c, if_neg c, zb_Wor_readLine_56]
    exact ⟨_, f1, rfl, h1, N1, fun _ => rfl, tF_p fr1⟩

theorem c_opt5 {q : Int × (Int → Int)} {d : Nat} {f : Int → Int → Int} {t : (Int → Int) × Nat × Nat × Nat × (Int → Int → Bool)} {u : Int → Int} {W T b n p e no de un oc li : Int} (hb : b + 18 ≤ T) (h : zTC f t.1 T u n p e) (hN : tN f b 0 no de un oc li) : ∃ v f2, zK (zD (true, q) (d + 3) zc_Wor_readLine) zEx zc_Wor_readLine (zat zc_Wor_readLine 59) [(18, W, 0), (15, T, 0), (13, b, 0)] [] (zM (true, q) (d + 2) 47 [(15, T, 0), (5, 14, 0)] (f, t)) = zK (zD (true, q) (d + 3) zc_Wor_readLine) zEx zc_Wor_readLine (zat zc_Wor_readLine 69) [(18, W, 0), (15, T, 0), (13, b, 0)] [] (zM (true, q) (d + 2) 47 [(15, T, 0), (5, 15, 0)] (f2, t)) ∧ zTC f2 t.1 T u n (pMb u n 14 1 20 e p).2 (pMb u n 14 1 20 e p).1 ∧ tN f2 b 0 no de un oc v ∧ ((pMb u n 14 1 20 e p).1 = -1 → v = pMv u n 14 li e p) ∧ tF T b f f2 := by
  obtain ⟨f1, r1, h1, fr1⟩ := c_passes (q := q) (d := d + 1) (σ := (f, t)) (W := 14) h (by decide)
  have N1 : tN f1 b 0 no de un oc li := tN_fr (fun o k o0 o1 => fr1 o k (by omega)) hN
  have r1 : zM (true, q) (d + 2) 47 [(15, T, 0), (5, 14, 0)] (f, t) = some ((0, if e = -1 ∧ txT u n p = 14 then 1 else 0, 0), (f1, t)) := r1
  rw [r1, zK_i, zb_Wor_readLine_59]
  unfold pMb pMv
  by_cases c : e = -1 ∧ txT u n p = 14
  · rw [if_pos c] at h1
    obtain ⟨f2, r2, h2, fr2⟩ := c_number (q := q) (d := d + 1) (σ := (f1, t)) (lo := 1) (hi := 20) h1
    have r2 : zM (true, q) (d + 2) 48 [(15, T, 0), (0, 1, 0), (0, 20, 0)] (f1, t) = _ := r2
    rw [if_pos c, if_neg (by decide), if_pos c, if_pos c, zb_Wor_readLine_60, r2, zK_i, zb_Wor_readLine_65]
    have N2 : tN f2 b 0 no de un oc li := tN_fr (fun o k o0 o1 => fr2 o k (by omega)) N1
    refine ⟨_, _, rfl, ?_, tN_9 N2, ?_, ?_⟩
    · by_cases c2 : txT u n (txN u n p) = 2 ∧ 1 ≤ txV u n (txN u n p) ∧ txV u n (txN u n p) ≤ 20
      · rw [if_pos ⟨c.1, c2⟩, if_neg (fun z => z.2 c2), c.1] at h2
        rw [if_pos c2]
        exact zTC_up (by omega) h2
      · rw [if_neg (fun z => c2 z.2), if_pos ⟨c.1, c2⟩] at h2
        rw [if_neg c2]
        exact zTC_up (by omega) h2
    · intro z
      by_cases c2 : txT u n (txN u n p) = 2 ∧ 1 ≤ txV u n (txN u n p) ∧ txV u n (txN u n p) ≤ 20
      · rw [if_pos ⟨c.1, c2⟩]
      · rw [if_neg c2] at z
        have z : txN u n p = -1 := z
        have := (zTC_p h1).1
        omega
    · exact tF_trans (tF_p fr1) (tF_trans (tF_p fr2) (tF_b (zFb_up (by omega))))
  · rw [if_neg c] at h1
    rw [if_neg c, if_pos rfl, if_neg c, if_neg c, zb_Wor_readLine_66]
    exact ⟨_, f1, rfl, h1, N1, fun _ => rfl, tF_p fr1⟩

theorem c_lineTail {q : Int × (Int → Int)} {d : Nat} {f : Int → Int → Int} {t : (Int → Int) × Nat × Nat × Nat × (Int → Int → Bool)} {u : Int → Int} {W T b n p no de un oc li : Int} (hb : b + 18 ≤ T) (h : zTC f t.1 T u n p (-1)) (hN : tN f b 0 no de un oc li) : ∃ f2, zK (zD (true, q) (d + 3) zc_Wor_readLine) zEx zc_Wor_readLine (zat zc_Wor_readLine 69) [(18, W, 0), (15, T, 0), (13, b, 0)] [] (zM (true, q) (d + 2) 47 [(15, T, 0), (5, 15, 0)] (f, t)) = some ((9, 0, 0), (zup f2 W 4 (zw (f2 W 4 + 1)), t)) ∧ zTC f2 t.1 T u n (pSt u n p).2 (-1) ∧ tN f2 b (pSt u n p).1 no de un oc li ∧ tF T b f f2 := by
  obtain ⟨f1, r1, h1, fr1⟩ := c_passes (q := q) (d := d + 1) (σ := (f, t)) (W := 15) h (by decide)
  have N1 : tN f1 b 0 no de un oc li := tN_fr (fun o k o0 o1 => fr1 o k (by omega)) hN
  have r1 : zM (true, q) (d + 2) 47 [(15, T, 0), (5, 15, 0)] (f, t) = some ((0, if (-1 : Int) = -1 ∧ txT u n p = 15 then 1 else 0, 0), (f1, t)) := r1
  rw [r1, zK_i, zb_Wor_readLine_69]
  unfold pSt
  -- the end of it
  have fin : ∀ (f2 : Int → Int → Int) (p2 : Int), zTC f2 t.1 T u n p2 (-1) → zK (zD (true, q) (d + 3) zc_Wor_readLine) zEx zc_Wor_readLine (zat zc_Wor_readLine 83) [(18, W, 0), (15, T, 0), (13, b, 0)] [] (zM (true, q) (d + 2) 46 [(15, T, 0)] (f2, t)) = some ((9, 0, 0), (zup f2 W 4 (zw (f2 W 4 + 1)), t)) := by
    intro f2 p2 h2
    have h2' : zTC (f2, t).1 (f2, t).2.1 T u n p2 (-1) := h2
    rw [c_failed h2', zK_i, zb_Wor_readLine_83, if_pos rfl, if_neg (fun z => z rfl), zb_Wor_readLine_84]
  by_cases c : txT u n p = 15
  · have y : (-1 : Int) = -1 ∧ txT u n p = 15 := ⟨rfl, c⟩
    rw [if_pos y] at h1
    have h2 : zTC (zup f1 b 4 2) t.1 T u n (txN u n p) (-1) := zTC_up (by omega) h1
    rw [if_pos y, if_neg (by decide), if_pos c, zb_Wor_readLine_70]
    show ∃ f2, zK _ _ _ _ _ _ (zM (true, q) (d + 2) 46 [(15, T, 0)] (zup f1 b 4 2, t)) = _ ∧ _
    rw [fin _ _ h2]
    exact ⟨_, rfl, h2, tN_4 N1, tF_trans (tF_p fr1) (tF_b (zFb_up (by omega)))⟩
  · have y : ¬((-1 : Int) = -1 ∧ txT u n p = 15) := fun z => c z.2
    rw [if_neg y] at h1
    obtain ⟨f2, r2, h2, fr2⟩ := c_passes (q := q) (d := d + 1) (σ := (f1, t)) (W := 16) h1 (by decide)
    have N2 : tN f2 b 0 no de un oc li := tN_fr (fun o k o0 o1 => fr2 o k (by omega)) N1
    have r2 : zM (true, q) (d + 2) 47 [(15, T, 0), (5, 16, 0)] (f1, t) = some ((0, if (-1 : Int) = -1 ∧ txT u n p = 16 then 1 else 0, 0), (f2, t)) := r2
    rw [if_neg y, if_pos rfl, if_neg c, zb_Wor_readLine_74, r2, zK_i, zb_Wor_readLine_77]
    by_cases c2 : txT u n p = 16
    · have y2 : (-1 : Int) = -1 ∧ txT u n p = 16 := ⟨rfl, c2⟩
      rw [if_pos y2] at h2
      have h3 : zTC (zup f2 b 4 1) t.1 T u n (txN u n p) (-1) := zTC_up (by omega) h2
      rw [if_pos y2, if_neg (by decide), if_pos c2, zb_Wor_readLine_78]
      show ∃ f2, zK _ _ _ _ _ _ (zM (true, q) (d + 2) 46 [(15, T, 0)] (zup _ b 4 1, t)) = _ ∧ _
      rw [fin _ _ h3]
      exact ⟨_, rfl, h3, tN_4 N2, tF_trans (tF_p fr1) (tF_trans (tF_p fr2) (tF_b (zFb_up (by omega))))⟩
    · have y2 : ¬((-1 : Int) = -1 ∧ txT u n p = 16) := fun z => c2 z.2
      rw [if_neg y2] at h2
      rw [if_neg y2, if_pos rfl, if_neg c2, zb_Wor_readLine_81, fin _ _ h2]
      exact ⟨_, rfl, h2, N2, tF_trans (tF_p fr1) (tF_p fr2)⟩
theorem c_lineTail9 {q : Int × (Int → Int)} {d : Nat} {f : Int → Int → Int} {t : (Int → Int) × Nat × Nat × Nat × (Int → Int → Bool)} {u : Int → Int} {W T b n p e : Int} (h : zTC f t.1 T u n p e) (he : e ≠ -1) : ∃ f2, zK (zD (true, q) (d + 3) zc_Wor_readLine) zEx zc_Wor_readLine (zat zc_Wor_readLine 69) [(18, W, 0), (15, T, 0), (13, b, 0)] [] (zM (true, q) (d + 2) 47 [(15, T, 0), (5, 15, 0)] (f, t)) = some ((9, 0, 0), (f2, t)) ∧ zTC f2 t.1 T u n p e ∧ tF T b f f2 := by
  obtain ⟨f1, r1, h1, fr1⟩ := c_passes (q := q) (d := d + 1) (σ := (f, t)) (W := 15) h (by decide)
  rw [if_neg (fun z => he z.1)] at h1
  obtain ⟨f2, r2, h2, fr2⟩ := c_passes (q := q) (d := d + 1) (σ := (f1, t)) (W := 16) h1 (by decide)
  rw [if_neg (fun z => he z.1)] at h2 r1 r2
  have r1 : zM (true, q) (d + 2) 47 [(15, T, 0), (5, 15, 0)] (f, t) = some ((0, 0, 0), (f1, t)) := r1
  have r2 : zM (true, q) (d + 2) 47 [(15, T, 0), (5, 16, 0)] (f1, t) = some ((0, 0, 0), (f2, t)) := r2
  have h2' : zTC (f2, t).1 (f2, t).2.1 T u n p e := h2
  refine ⟨f2, ?_, h2, tF_trans (tF_p fr1) (tF_p fr2)⟩
  rw [r1, zK_i, zb_Wor_readLine_69, if_pos rfl, zb_Wor_readLine_74, r2, zK_i, zb_Wor_readLine_77, if_pos rfl, zb_Wor_readLine_81, c_failed h2', zK_i, zb_Wor_readLine_83, if_neg he, if_pos (by decide), zb_Wor_readLine_90]
theorem c_lineRun {q : Int × (Int → Int)} {d : Nat} {f : Int → Int → Int} {t : (Int → Int) × Nat × Nat × Nat × (Int → Int → Bool)} {u : Int → Int} {W T b n p e : Int} (hb : b + 18 ≤ T) (h : zTC f t.1 T u n p e) (hN : tN f b 0 0 2 4 30 4) : ((pL5 u n e p).1 = -1 → ∃ f2, zD (true, q) (d + 3) zc_Wor_readLine (zat zc_Wor_readLine 16) [(18, W, 0), (15, T, 0), (13, b, 0)] [] (f, t) = some ((9, 0, 0), (zup f2 W 4 (zw (f2 W 4 + 1)), t)) ∧ zTC f2 t.1 T u n (pSt u n (pL5 u n e p).2).2 (-1) ∧ tN f2 b (pSt u n (pL5 u n e p).2).1 (pMv u n 10 0 e p) (pMv u n 11 2 (pL1 u n e p).1 (pL1 u n e p).2) (pMv u n 12 4 (pL2 u n e p).1 (pL2 u n e p).2) (pMv u n 13 30 (pL3 u n e p).1 (pL3 u n e p).2) (pMv u n 14 4 (pL4 u n e p).1 (pL4 u n e p).2) ∧ tF T b f f2) ∧ ((pL5 u n e p).1 ≠ -1 → ∃ f2 p2, zD (true, q) (d + 3) zc_Wor_readLine (zat zc_Wor_readLine 16) [(18, W, 0), (15, T, 0), (13, b, 0)] [] (f, t) = some ((9, 0, 0), (f2, t)) ∧ zTC f2 t.1 T u n p2 (pL5 u n e p).1 ∧ tF T b f f2) := by
  obtain ⟨v1, f1, r1, h1, N1, e1, z1⟩ := c_opt1 (q := q) (d := d) (t := t) (W := W) hb h hN
  obtain ⟨v2, f2, r2, h2, N2, e2, z2⟩ := c_opt2 (q := q) (d := d) (t := t) (W := W) hb h1 N1
  obtain ⟨v3, f3, r3, h3, N3, e3, z3⟩ := c_opt3 (q := q) (d := d) (t := t) (W := W) hb h2 N2
  obtain ⟨v4, f4, r4, h4, N4, e4, z4⟩ := c_opt4 (q := q) (d := d) (t := t) (W := W) hb h3 N3
  obtain ⟨v5, f5, r5, h5, N5, e5, z5⟩ := c_opt5 (q := q) (d := d) (t := t) (W := W) hb h4 N4
  have z15 : tF T b f f5 := tF_trans z1 (tF_trans z2 (tF_trans z3 (tF_trans z4 z5)))
  have h5' : zTC f5 t.1 T u n (pL5 u n e p).2 (pL5 u n e p).1 := h5
  rw [zb_Wor_readLine_16, r1, r2, r3, r4, r5]
  refine ⟨fun c => ?_, fun c => ?_⟩
  · have c4 : (pL4 u n e p).1 = -1 := pMb_e c
    have c3 : (pL3 u n e p).1 = -1 := pMb_e c4
    have c2 : (pL2 u n e p).1 = -1 := pMb_e c3
    have c1 : (pL1 u n e p).1 = -1 := pMb_e c2
    have v1e := e1 c1
    have v2e := e2 c2
    have v3e := e3 c3
    have v4e := e4 c4
    have v5e := e5 c
    subst v1e v2e v3e v4e v5e
    rw [c] at h5'
    obtain ⟨f6, r6, h6, N6, z6⟩ := c_lineTail (q := q) (d := d) (t := t) (W := W) hb h5' N5
    exact ⟨f6, r6, h6, N6, tF_trans z15 z6⟩
  · obtain ⟨f6, r6, h6, z6⟩ := c_lineTail9 (q := q) (d := d) (t := t) (W := W) (b := b) h5' c
    exact ⟨f6, _, r6, h6, tF_trans z15 z6⟩

def tRes (f2 : Int → Int → Int) (w : Int → Int) (T W : Int) (u : Int → Int) (n : Int) (x : Int × Int × (Int → Int)) : Prop := ∃ p2 e2, zTC f2 w T u n p2 e2 ∧ (x.1 = -1 → e2 = -1 ∧ p2 = x.2.1 ∧ zGC f2 W x.2.2 ∧ zWL f2 W x.2.2) ∧ (x.1 ≠ -1 → e2 = x.1 ∨ (e2 = -1 ∧ p2 = x.1 ∧ txT u n p2 ≠ 3 ∧ txT u n p2 ≠ 0))
def tFr (T W : Int) (f f2 : Int → Int → Int) : Prop := ∀ o k, (o ≠ T ∨ (k ≠ 4 ∧ k ≠ 5)) → (o < W ∨ W + 95 ≤ o) → f2 o k = f o k
theorem tFr_trans {T W : Int} {f f2 f3 : Int → Int → Int} (h : tFr T W f f2) (h2 : tFr T W f2 f3) : tFr T W f f3 := fun o k a c => (h2 o k a c).trans (h o k a c)
theorem tFr_p {T W : Int} {f f2 : Int → Int → Int} (h : zFP T f f2) : tFr T W f f2 := fun o k a _ => h o k a
theorem tFr_b {T W b : Int} {f f2 : Int → Int → Int} (hb : W ≤ b ∧ b + 18 ≤ W + 95) (h : tF T b f f2) : tFr T W f f2 := fun o k a c => h o k a (by omega)
theorem zTC_fr {f f2 : Int → Int → Int} {w : Int → Int} {T n p e : Int} {u : Int → Int} (r : ∀ o k, T ≤ o → f2 o k = f o k) (h : zTC f w T u n p e) : zTC f2 w T u n p e := by
  obtain ⟨h1, h2, h3, h4, h5⟩ := h
  exact ⟨zTS_fp (fun o2 k2 hh => r o2 k2 (by omega)) h1, by rw [r T _ (by omega)]; exact h2, by rw [r T _ (by omega), r T _ (by omega)]; exact h3, by rw [r T _ (by omega), r (T + 2) _ (by omega)]; exact h4, by rw [r T _ (by omega)]; exact h5⟩
theorem pL5_9 {u : Int → Int} {n e p : Int} (h : e ≠ -1) : (pL5 u n e p).1 = e := by
  have m : ∀ w lo hi p, pMb u n w lo hi e p = (e, p) := fun w lo hi p => if_neg (fun z => h z.1)
  unfold pL5 pL4 pL3 pL2 pL1
  simp only [m]
theorem c_tlLine {q : Int × (Int → Int)} {d : Nat} {f : Int → Int → Int} {t : (Int → Int) × Nat × Nat × Nat × (Int → Int → Bool)} {u g : Int → Int} {W T n p N : Int} (hT : W + 95 ≤ T) (h : zTC f t.1 T u n p (-1)) (hG : zGC f W g) (hL : zWL f W g) (hI : gInv N g) : ∃ f2, zM (true, q) (d + 3) 53 [(18, W, 0), (15, T, 0)] (f, t) = some ((9, 0, 0), (f2, t)) ∧ tRes f2 t.1 T W u n (if txT u n p = 9 then pAl u n g p (txN u n p) else (p, 0, g)) ∧ tFr T W f f2 := by
  have m0 := hI.1.1
  have m4 := hI.1.2.1
  have hp := zTC_p h
  have e3 : f W 4 = g 3 := hG.1
  -- up to the new line
  have start : ∃ f1, zM (true, q) (d + 3) 53 [(18, W, 0), (15, T, 0)] (f, t) = zD (true, q) (d + 3) zc_Wor_readLine (zat zc_Wor_readLine 6) [(18, W, 0), (15, T, 0), (2, 0, 0)] [] (f1, t) ∧ zTC f1 t.1 T u n p (if g 3 = 4 then p else -1) ∧ zFP T f f1 := by
    rw [ze_Wor_readLine, zb_Wor_readLine_0]
    show ∃ f1, (if f W 4 < 4 then _ else _) = _ ∧ _
    by_cases c : g 3 = 4
    · obtain ⟨f1, r1, h1, fr1⟩ := c_fail (q := q) (d := d + 2) (σ := (f, t)) h
      rw [if_pos rfl] at h1
      rw [if_neg (by omega), if_pos c, zb_Wor_readLine_4, r1, zK_v]
      exact ⟨f1, rfl, h1, fr1⟩
    · rw [if_pos (by omega), if_neg c]
      exact ⟨f, rfl, h, zFP_refl⟩
  obtain ⟨f1, r1, h1, fr1⟩ := start
  obtain ⟨f2, r2, h2, fr2⟩ := c_needs (q := q) (d := d) (σ := (f1, t)) (W := 9) h1 (by decide)
  have r2 : zM (true, q) (d + 2) 49 [(15, T, 0), (5, 9, 0)] (f1, t) = some ((9, 0, 0), (f2, t)) := r2
  have fr2 : zFP T f1 f2 := fr2
  have e32 : f2 W 4 = g 3 := by rw [fr2 _ _ (by omega), fr1 _ _ (by omega), e3]
  have fr12 : zFP T f f2 := zFP_trans fr1 fr2
  -- the new line's object
  have obj : ∃ b, zM (true, q) (d + 2) 37 [(18, W, 0), (0, g 3, 0)] (f2, t) = some ((13, b, 0), (f2, t)) ∧ W + 2 ≤ b ∧ b + 18 ≤ W + 95 ∧ (g 3 < 4 → b = W + 23 + 18 * g 3) := by
    by_cases c : g 3 < 4
    · exact ⟨_, c_lineAt m0 c, by omega, by omega, fun _ => rfl⟩
    · refine ⟨W + 2, ?_, by omega, by omega, fun z => absurd z c⟩
      rw [ze_Wor_lineAt, zb_Wor_lineAt_0, if_neg (by omega), zb_Wor_lineAt_2, if_pos (by omega), zb_Wor_lineAt_12]
  obtain ⟨b, rb, b0, b1, b2⟩ := obj
  obtain ⟨f3, r3, N3, fr3⟩ := c_makeNew (q := q) (d := d) (σ := (f2, t)) (b := b)
  have r3 : zM (true, q) (d + 2) 6 [(13, b, 0)] (f2, t) = some ((9, 0, 0), (f3, t)) := r3
  have fr3 : zFb b f2 f3 := fr3
  have h3 : zTC f3 t.1 T u n _ _ := zTC_fr (T := T) (fun o k _ => fr3 o k (by omega)) h2
  generalize hp2 : (if (if g 3 = 4 then p else -1) = -1 ∧ txT u n p = 9 then txN u n p else p) = p2 at h3
  generalize he2 : (if (if g 3 = 4 then p else -1) = -1 ∧ txT u n p ≠ 9 then p else if g 3 = 4 then p else -1) = e2 at h3
  have fr13 : tFr T W f f3 := tFr_trans (tFr_p fr12) (tFr_b ⟨by omega, b1⟩ (tF_b fr3))
  have run : zM (true, q) (d + 3) 53 [(18, W, 0), (15, T, 0)] (f, t) = zD (true, q) (d + 3) zc_Wor_readLine (zat zc_Wor_readLine 16) [(18, W, 0), (15, T, 0), (13, b, 0)] [] (f3, t) := by
    rw [r1, zb_Wor_readLine_6, r2, zK_v, zb_Wor_readLine_9]
    show zK _ _ _ _ _ _ (zM (true, q) (d + 2) 37 [(18, W, 0), (0, f2 W 4, 0)] (f2, t)) = _
    rw [e32, rb, zK_13, zb_Wor_readLine_13, r3, zK_v]
  obtain ⟨A, B⟩ := c_lineRun (q := q) (d := d) (t := t) (W := W) (by omega) h3 N3
  rw [run]
  by_cases ce : e2 = -1
  · have g4 : g 3 < 4 ∧ txT u n p = 9 := by
      by_cases c4 : g 3 = 4
      · rw [if_pos c4, if_neg (fun z => by have := z.1; omega)] at he2
        omega
      · by_cases c9 : txT u n p = 9
        · exact ⟨by omega, c9⟩
        · rw [if_neg c4, if_pos ⟨rfl, c9⟩] at he2
          omega
    have hp2 : txN u n p = p2 := by
      rw [← hp2, if_pos ⟨if_neg (by omega), g4.2⟩]
    subst ce hp2
    have hx : pAl u n g p (txN u n p) = if (pL5 u n (-1) (txN u n p)).1 = -1 then (-1, (pSt u n (pL5 u n (-1) (txN u n p)).2).2, pNw u n g (-1) (txN u n p)) else ((pL5 u n (-1) (txN u n p)).1, 0, g) := by
      unfold pAl
      rw [if_neg (show ¬g 3 = 4 by omega)]
    rw [if_pos g4.2, hx]
    by_cases c5 : (pL5 u n (-1) (txN u n p)).1 = -1
    · obtain ⟨f4, r4, h4, N4, z4⟩ := A c5
      have z04 : tFr T W f f4 := tFr_trans fr13 (tFr_b ⟨by omega, b1⟩ z4)
      have hb := b2 g4.1
      have e42 : f4 W 4 = g 3 := by rw [z4 _ _ (by omega) (by omega), fr3 _ _ (by omega), e32]
      have zd : ∀ o k, W ≤ o → o < W + 95 → (o < b ∨ b + 18 ≤ o) → f4 o k = f o k := fun o k o0 o1 ob => by
        rw [z4 _ _ (by omega) ob, fr3 _ _ ob, fr12 _ _ (by omega)]
      rw [r4, if_pos c5, e42, zw_id (by omega) (by omega)]
      have c4 : (pL4 u n (-1) (txN u n p)).1 = -1 := pMb_e c5
      have c3 : (pL3 u n (-1) (txN u n p)).1 = -1 := pMb_e c4
      have c2 : (pL2 u n (-1) (txN u n p)).1 = -1 := pMb_e c3
      have p1 : 0 ≤ (pL1 u n (-1) (txN u n p)).2 := pMb_p (by decide) (txN_0 (by omega) hp.1)
      have dl := pMv_rng (df := 2) c2 p1 (by decide) (by decide)
      have hv := gInv_al (u := u) (n := n) (b := p) (p := txN u n p) hI hp.1 (txN_0 (by omega) hp.1)
      rw [hx, if_pos c5] at hv
      unfold pNw at hv ⊢
      generalize pMv u n 10 0 (-1) (txN u n p) = v1 at N4 hv ⊢
      generalize pMv u n 11 2 (pL1 u n (-1) (txN u n p)).1 (pL1 u n (-1) (txN u n p)).2 = v2 at N4 dl hv ⊢
      generalize pMv u n 12 4 (pL2 u n (-1) (txN u n p)).1 (pL2 u n (-1) (txN u n p)).2 = v3 at N4 hv ⊢
      generalize pMv u n 13 30 (pL3 u n (-1) (txN u n p)).1 (pL3 u n (-1) (txN u n p)).2 = v4 at N4 hv ⊢
      generalize pMv u n 14 4 (pL4 u n (-1) (txN u n p)).1 (pL4 u n (-1) (txN u n p)).2 = v5 at N4 hv ⊢
      generalize (pSt u n (pL5 u n (-1) (txN u n p)).2).1 = v0 at N4 hv ⊢
      generalize hG2 : zup1 (gNl g (10 + 265 * g 3) v0 v1 v2 v3 v4 v5) 3 (g 3 + 1) = G2 at hv ⊢
      have hv2 : gKp g G2 := hv.2
      have G3 : G2 3 = g 3 + 1 := by rw [← hG2, zup1_eq rfl]
      have Ge : ∀ j, j ≠ 3 → (j < 10 + 265 * g 3 ∨ 10 + 265 * g 3 + 265 ≤ j) → G2 j = g j := fun j j0 j1 => by
        rw [← hG2, zup1_ne j0]
        exact gNl_out j1
      refine ⟨_, rfl, ⟨_, -1, zTC_up (by omega) h4, fun _ => ⟨rfl, rfl, ?_, ?_⟩, fun z => absurd rfl z⟩, fun o k a c => (zup_na (by omega)).trans (z04 o k a c)⟩
      · obtain ⟨a1, a2, a3, a4, a5, a6, a7, j1, j2, j3, j4⟩ := hG
        refine ⟨(zupE rfl rfl).trans G3.symm, ?_, ?_, ?_, ?_, ?_, ?_, ?_, ?_, ?_, fun ago c q0 q1 q2 q3 => ?_⟩
        · rw [zup_nk (by decide), zd _ _ (by omega) (by omega) (by omega), a2]
          exact (Ge 0 (by decide) (by omega)).symm
        · rw [zup_nk (by decide), zd _ _ (by omega) (by omega) (by omega), a3]
          exact (Ge 4 (by decide) (by omega)).symm
        · rw [zup_nk (by decide), zd _ _ (by omega) (by omega) (by omega), a4]
          exact (Ge 5 (by decide) (by omega)).symm
        · rw [zup_nk (by decide), zd _ _ (by omega) (by omega) (by omega), a5]
          exact (Ge 6 (by decide) (by omega)).symm
        · rw [zup_nk (by decide), zd _ _ (by omega) (by omega) (by omega), a6]
          exact (Ge 7 (by decide) (by omega)).symm
        · rw [zup_nk (by decide), zd _ _ (by omega) (by omega) (by omega), a7]
          exact (Ge 9 (by decide) (by omega)).symm
        · rw [zup_na (by omega), zd _ _ (by omega) (by omega) (by omega), j1]
          exact (Ge 8 (by decide) (by omega)).symm
        · rw [zup_na (by omega), zd _ _ (by omega) (by omega) (by omega)]
          exact j2
        · rw [zup_na (by omega), zd _ _ (by omega) (by omega) (by omega)]
          exact j3
        · have h8 : G2 8 = g 8 := Ge 8 (by decide) (by omega)
          have q1 : ago < G2 8 := q1
          have h60 := hI.1.2.2.1.2.2.2.2
          rw [zup_na (by omega), zup_na (by omega), zd _ _ (by omega) (by omega) (by omega), zd _ _ (by omega) (by omega) (by omega), j4 ago c q0 (by omega) q2 q3]
          exact (Ge _ (by omega) (by omega)).symm
      · intro o o0 o1
        have o1 : o < G2 3 := o1
        by_cases c6 : o = g 3
        · subst c6
          have := tN_LC (g := g) (B := 10 + 265 * g 3) (x := 3) (y := g 3 + 1) (by omega) dl.2 N4
          rw [hG2, hb] at this
          exact zLC_fr (fun o k oo _ => zup_na (by omega)) this
        · have hro := (hI.1.2.2.2 o o0 (by omega)).1.1
          have e2 : G2 (10 + 265 * o + 2) = g (10 + 265 * o + 2) := Ge _ (by omega) (by omega)
          show zLC (G2 (10 + 265 * o + 2)) _ _ G2 _
          rw [e2]
          exact zLC_fr (fun x k x0 x1 => (zup_na (by omega)).trans (zd x k (by omega) (by omega) (by omega))) (zLC_eq (fun j j0 j1 => Ge j (by omega) (by omega)) hro (by have := hro.2.2.1; omega) (hL o o0 (by omega)))
    · obtain ⟨f4, p4, r4, h4, z4⟩ := B c5
      rw [r4, if_neg c5]
      exact ⟨f4, rfl, ⟨p4, _, h4, fun z => absurd z c5, fun _ => Or.inl rfl⟩, tFr_trans fr13 (tFr_b ⟨by omega, b1⟩ z4)⟩
  · have e5 := pL5_9 (u := u) (n := n) (p := p2) ce
    obtain ⟨f4, p4, r4, h4, z4⟩ := B (by omega)
    have ep : e2 = p := by
      rw [← he2]
      by_cases c4 : g 3 = 4
      · rw [if_pos c4, if_neg (fun z => by have := z.1; omega)]
      · by_cases c9 : txT u n p = 9
        · rw [if_neg c4, if_neg (fun z => z.2 c9)] at he2
          omega
        · rw [if_neg c4, if_pos ⟨rfl, c9⟩]
    have x1 : (if txT u n p = 9 then pAl u n g p (txN u n p) else (p, 0, g)).1 = p := by
      by_cases c9 : txT u n p = 9
      · have c4 : g 3 = 4 := by
          apply Classical.byContradiction
          intro c4
          rw [if_neg c4, if_neg (fun z => z.2 c9)] at he2
          omega
        rw [if_pos c9]
        unfold pAl
        have e6 := pL5_9 (u := u) (n := n) (e := p) (p := txN u n p) (by omega)
        rw [if_pos c4, if_neg (by omega)]
        exact e6
      · rw [if_neg c9]
    rw [r4]
    exact ⟨f4, rfl, ⟨p4, _, h4, fun z => by omega, fun _ => Or.inl (by omega)⟩, tFr_trans fr13 (tFr_b ⟨by omega, b1⟩ z4)⟩

