/-! ## the class reads a sum -/
def zCE (F f2 : Int → Int → Int) (a T b : Int) : Prop := (∀ o k, (o ≠ T ∨ (k ≠ 4 ∧ k ≠ 5)) → (o ≠ a ∨ k ≠ 7) → o ≠ a + 5 → f2 o k = F o k) ∧ (∀ j, j < b → f2 (a + 5) j = F (a + 5) j) ∧ b ≤ f2 a 7 ∧ f2 a 7 ≤ 400
def CX (F f2 : Int → Int → Int) (w : Int → Int) (a T : Int) (u : Int → Int) (n b : Int) (x : Bool × Int × List Int) : Prop := zCE F f2 a T b ∧ (x.1 = true → zTC f2 w T u n x.2.1 (-1) ∧ zSeg (f2 (a + 5)) x.2.2 b (f2 a 7)) ∧ (x.1 ≠ true → x.2.1 ≠ -1 ∧ ∃ p, zTC f2 w T u n p x.2.1)
theorem zSeg_app {h : Int → Int} : ∀ (c c2 : List Int) (b m e : Int), zSeg h c b m → zSeg h c2 m e → zSeg h (c ++ c2) b e := by
  intro c
  induction c with
  | nil =>
    intro c2 b m e h1 h2
    rw [h1.1]
    exact h2
  | cons x c ih =>
    intro c2 b m e h1 h2
    exact ⟨h1.1, h1.2.1, h1.2.2.1, ih _ _ _ _ h1.2.2.2 h2⟩
theorem zSeg_congr {h h2 : Int → Int} : ∀ (c : List Int) (b e : Int), (∀ j, b ≤ j → j < e → h2 j = h j) → zSeg h c b e → zSeg h2 c b e := by
  intro c
  induction c with
  | nil => intro b e _ h1; exact h1
  | cons x c ih =>
    intro b e hj h1
    have hr := zSeg_rng _ _ _ h1
    have el : ((x :: c).length : Int) = c.length + 1 := by simp
    exact ⟨h1.1, h1.2.1, (hj b (Int.le_refl b) (by omega)).trans h1.2.2.1, ih _ _ (fun j j0 j1 => hj j (by omega) j1) h1.2.2.2⟩
theorem zCE_fp {F f f2 : Int → Int → Int} {a T b : Int} (ha : a + 7 ≤ T) (h : zCE F f a T b) (e : zFP T f f2) : zCE F f2 a T b ∧ f2 a 7 = f a 7 ∧ f2 (a + 5) = f (a + 5) := by
  obtain ⟨h1, h2, h3, h4⟩ := h
  have e7 := e a 7 (by omega)
  refine ⟨⟨fun o k o1 o2 o3 => (e o k o1).trans (h1 o k o1 o2 o3), fun j hj => (e _ _ (by omega)).trans (h2 j hj), by omega, by omega⟩, e7, funext fun k => e _ _ (by omega)⟩
theorem c_emitE {q : Int × (Int → Int)} {d : Nat} {t : (Int → Int) × Nat × Nat × Nat × (Int → Int → Bool)} {F f : Int → Int → Int} {a T b n p e v : Int} {u : Int → Int} (ha : a + 7 ≤ T) (b0 : 0 ≤ b) (hE : zCE F f a T b) (hT : zTC f t.1 T u n p e) : ∃ f2, zM (true, q) (d + 1) 88 [(12, a, 0), (0, v, 0)] (f, t) = some ((9, 0, 0), (f2, t)) ∧ zCE F f2 a T b ∧ zTC f2 t.1 T u n p e ∧ f a 7 ≤ f2 a 7 ∧ (f a 7 < 400 → f2 a 7 = f a 7 + 1 ∧ ∀ c, zSeg (f (a + 5)) c b (f a 7) → zSeg (f2 (a + 5)) (c ++ [v]) b (f2 a 7)) := by
  obtain ⟨h1, h2, h3, h4⟩ := hE
  have hr := c_emit (q := q) (d := d) (σ := (f, t)) (a := a) (c := v) (by show 0 ≤ f a 7; omega) h4
  by_cases c4 : f a 7 < 400
  · rw [if_pos (show (f, t).1 a 7 < 400 from c4)] at hr
    have hf : ∀ o k, (o ≠ a ∨ k ≠ 7) → o ≠ a + 5 → zup (zup f (a + 5) (f a 7) v) a 7 (f a 7 + 1) o k = f o k := fun o k o2 o3 => (zup_nka (by omega)).trans (zup_na o3)
    have e7 : zup (zup f (a + 5) (f a 7) v) a 7 (f a 7 + 1) a 7 = f a 7 + 1 := zupE rfl rfl
    have er : ∀ j, j ≠ f a 7 → zup (zup f (a + 5) (f a 7) v) a 7 (f a 7 + 1) (a + 5) j = f (a + 5) j := fun j hj => (zup_na (by omega)).trans (zup_nk hj)
    have ev : zup (zup f (a + 5) (f a 7) v) a 7 (f a 7 + 1) (a + 5) (f a 7) = v := (zup_na (by omega)).trans (zupE rfl rfl)
    refine ⟨zup (zup f (a + 5) (f a 7) v) a 7 (f a 7 + 1), hr, ⟨fun o k o1 o2 o3 => (hf o k o2 o3).trans (h1 o k o1 o2 o3), fun j hj => (er j (by omega)).trans (h2 j hj), by omega, by omega⟩, ?_, by omega, fun _ => ⟨e7, fun c hc => ?_⟩⟩
    · obtain ⟨hs, p0, p1, p2, p3⟩ := hT
      refine ⟨zTS_fp (fun o k ho => hf o k (by omega) (by omega)) hs, ?_, ?_, ?_, ?_⟩
      · rw [hf _ _ (by omega) (by omega)]; exact p0
      · rw [hf _ _ (by omega) (by omega), hf _ _ (by omega) (by omega)]; exact p1
      · rw [hf T 4 (by omega) (by omega), hf _ _ (by omega) (by omega)]; exact p2
      · rw [hf _ _ (by omega) (by omega)]; exact p3
    · refine zSeg_app _ _ _ _ _ (zSeg_congr _ _ _ (fun j j0 j1 => er j (by omega)) hc) ?_
      exact ⟨by omega, c4, ev, by omega, by omega, by omega⟩
  · rw [if_neg (show ¬(f, t).1 a 7 < 400 from c4)] at hr
    exact ⟨f, hr, ⟨h1, h2, h3, h4⟩, hT, Int.le_refl _, fun z => absurd z c4⟩
theorem txF0 : ∀ w : Nat, w < 33 → zWfc (w : Int) < 10 := by decide
theorem c_part {q : Int × (Int → Int)} {d : Nat} {t : (Int → Int) × Nat × Nat × Nat × (Int → Int → Bool)} {F f : Int → Int → Int} {a T b n p e j : Int} {u : Int → Int} {v0 : zV} (ha : a + 7 ≤ T) (b0 : 0 ≤ b) (j0 : 0 ≤ j) (j4 : j < 400) (hE : zCE F f a T b) (hT : zTC f t.1 T u n p e) : ∃ f2, zD (true, q) (d + 2) zc_Law_readSum (zat zc_Law_readSum 4) [(12, a, 0), (15, T, 0), (0, 1, 0), (0, j, 0), v0] [] (f, t) = (if j ≤ 0 then zD (true, q) (d + 2) zc_Law_readSum (zat zc_Law_readSum 41) [(12, a, 0), (15, T, 0), (0, 1, 0), (0, j, 0), (5, txT u n p, 0)] [] (f2, t) else zD (true, q) (d + 2) zc_Law_readSum (zat zc_Law_readSum 38) [(12, a, 0), (15, T, 0), (0, 1, 0), (0, j, 0), (5, txT u n p, 0)] [] (f2, t)) ∧ zCE F f2 a T b ∧ (e = -1 → (pPart u n p).1 = true → zTC f2 t.1 T u n (pPart u n p).2.1 (-1) ∧ (f a 7 < 400 → f2 a 7 = f a 7 + 1 ∧ ∀ c, zSeg (f (a + 5)) c b (f a 7) → zSeg (f2 (a + 5)) (c ++ (pPart u n p).2.2) b (f2 a 7))) ∧ (e = -1 → (pPart u n p).1 ≠ true → (pPart u n p).2.1 = p) ∧ (¬(e = -1 ∧ (pPart u n p).1 = true) → ∃ p2, zTC f2 t.1 T u n p2 (if e = -1 then p else e)) := by
  have hw := txT_rng (u := u) (n := n) (p := p)
  have hp := zTC_p hT
  have h10 : zWfc (txT u n p) < 10 := by
    have := txF0 (txT u n p).toNat (by omega)
    rw [show (((txT u n p).toNat : Nat) : Int) = txT u n p by omega] at this
    exact this
  have hcw := c_word (q := q) (d := d + 1) (σ := (f, t)) hT
  have run0 : zD (true, q) (d + 2) zc_Law_readSum (zat zc_Law_readSum 4) [(12, a, 0), (15, T, 0), (0, 1, 0), (0, j, 0), v0] [] (f, t) = (if zWfc (txT u n p) < 0 then zD (true, q) (d + 2) zc_Law_readSum (zat zc_Law_readSum 30) [(12, a, 0), (15, T, 0), (0, 1, 0), (0, j, 0), (5, txT u n p, 0)] [] (f, t) else zD (true, q) (d + 2) zc_Law_readSum (zat zc_Law_readSum 15) [(12, a, 0), (15, T, 0), (0, 1, 0), (0, j, 0), (5, txT u n p, 0)] [] (f, t)) := by
    rw [zb_Law_readSum_4, if_neg (by omega), zb_Law_readSum_7, if_neg (by decide), zb_Law_readSum_9, hcw]
    show zD (true, q) (d + 2) zc_Law_readSum (zat zc_Law_readSum 11) _ [(5, txT u n p, 0)] (f, t) = _
    rw [zb_Law_readSum_11, zG2 hw.1 hw.2, zb_Law_readSum_14]
  rw [run0]
  by_cases c1 : 0 ≤ zWfc (txT u n p) ∧ zWfc (txT u n p) < 7
  · have hT0 : txT u n p ≠ 0 := fun z => by
      rw [z] at c1
      exact absurd c1.1 (by decide)
    have hT2 : txT u n p ≠ 2 := fun z => by
      rw [z] at c1
      exact absurd c1.1 (by decide)
    have hl := txT_lt hT0
    have eP : pPart u n p = (true, txN u n p, [-1 - zWfc (txT u n p)]) := by
      unfold pPart
      rw [if_neg hT2, if_pos c1]
    obtain ⟨f1, r1, E1, T1, m1, k1⟩ := c_emitE (q := q) (d := d) (v := -1 - zWfc (txT u n p)) ha b0 hE hT
    obtain ⟨f2, r2, T2, fr2⟩ := c_passes (q := q) (d := d) (σ := (f1, t)) (W := txT u n p) T1 hT0
    obtain ⟨E2, s7, s5⟩ := zCE_fp ha E1 fr2
    have T2 : zTC f2 t.1 T u n (if e = -1 ∧ txT u n p = txT u n p then txN u n p else p) e := T2
    refine ⟨f2, ?_, E2, ?_, ?_, ?_⟩
    · rw [if_neg (by omega), zb_Law_readSum_15, zG2 hw.1 hw.2, zb_Law_readSum_17, if_neg (by omega), zb_Law_readSum_19, zG2 hw.1 hw.2, zb_Law_readSum_23, zw_id (by omega) (by omega), r1, zK_v, zb_Law_readSum_25, r2, zK_i, zb_Law_readSum_28]
    · intro he _
      rw [if_pos ⟨he, rfl⟩, he] at T2
      rw [eP]
      refine ⟨T2, fun h4 => ?_⟩
      obtain ⟨k2, k3⟩ := k1 h4
      exact ⟨s7.trans k2, fun c hc => by rw [s5, s7]; exact k3 c hc⟩
    · intro _ hx
      rw [eP] at hx
      exact absurd rfl hx
    · intro hn
      have he : e ≠ -1 := fun z => hn ⟨z, by rw [eP]⟩
      rw [if_neg (fun z => he z.1)] at T2
      rw [if_neg he]
      exact ⟨p, T2⟩
  · have run1 : (if zWfc (txT u n p) < 0 then zD (true, q) (d + 2) zc_Law_readSum (zat zc_Law_readSum 30) [(12, a, 0), (15, T, 0), (0, 1, 0), (0, j, 0), (5, txT u n p, 0)] [] (f, t) else zD (true, q) (d + 2) zc_Law_readSum (zat zc_Law_readSum 15) [(12, a, 0), (15, T, 0), (0, 1, 0), (0, j, 0), (5, txT u n p, 0)] [] (f, t)) = zD (true, q) (d + 2) zc_Law_readSum (zat zc_Law_readSum 30) [(12, a, 0), (15, T, 0), (0, 1, 0), (0, j, 0), (5, txT u n p, 0)] [] (f, t) := by
      by_cases c2 : zWfc (txT u n p) < 0
      · rw [if_pos c2]
      · rw [if_neg c2, zb_Law_readSum_15, zG2 hw.1 hw.2, zb_Law_readSum_17, if_pos (by omega)]
    rw [run1]
    have hv := txV_nn (u := u) (n := n) (p := p)
    obtain ⟨f1, r1, T1, fr1⟩ := c_number (q := q) (d := d) (σ := (f, t)) (lo := 0) (hi := 999) hT
    obtain ⟨E1, s7, s5⟩ := zCE_fp ha hE fr1
    obtain ⟨f2, r2, E2, T2, m2, k2⟩ := c_emitE (q := q) (d := d) (v := if e = -1 ∧ (txT u n p = 2 ∧ 0 ≤ txV u n p ∧ txV u n p ≤ 999) then txV u n p else 0) ha b0 E1 T1
    have eP : pPart u n p = if txT u n p = 2 ∧ 0 ≤ txV u n p ∧ txV u n p ≤ 999 then (true, txN u n p, [txV u n p]) else pNo p := by
      unfold pPart
      by_cases c2 : txT u n p = 2
      · rw [if_pos c2]
        by_cases c3 : txV u n p ≤ 999
        · rw [if_pos c3, if_pos ⟨c2, hv, c3⟩]
        · rw [if_neg c3, if_neg (fun z => c3 z.2.2)]
      · rw [if_neg c2, if_neg c1, if_neg (fun z => c2 z.1)]
    refine ⟨f2, ?_, E2, ?_, ?_, ?_⟩
    · rw [zb_Law_readSum_30, r1, zK_i, zb_Law_readSum_35]
      show zK _ _ _ _ _ _ (zM (true, q) (d + 1) 88 [(12, a, 0), (0, if e = -1 ∧ (txT u n p = 2 ∧ 0 ≤ txV u n p ∧ txV u n p ≤ 999) then txV u n p else 0, 0)] (f1, t)) = _
      rw [r2, zK_v, zb_Law_readSum_36]
    · intro he hx
      by_cases c3 : txT u n p = 2 ∧ 0 ≤ txV u n p ∧ txV u n p ≤ 999
      · rw [if_pos ⟨he, c3⟩, if_neg (fun z => z.2 c3), he] at T2
        rw [if_pos ⟨he, c3⟩] at k2
        rw [eP, if_pos c3]
        refine ⟨T2, fun h4 => ?_⟩
        obtain ⟨k3, k4⟩ := k2 (by omega)
        exact ⟨by omega, fun c hc => k4 c (by rw [s5, s7]; exact hc)⟩
      · rw [eP, if_neg c3] at hx
        exact absurd hx Bool.false_ne_true
    · intro he hx
      by_cases c3 : txT u n p = 2 ∧ 0 ≤ txV u n p ∧ txV u n p ≤ 999
      · rw [eP, if_pos c3] at hx
        exact absurd rfl hx
      · rw [eP, if_neg c3]
        rfl
    · intro hn
      by_cases he : e = -1
      · have c3 : ¬(txT u n p = 2 ∧ 0 ≤ txV u n p ∧ txV u n p ≤ 999) := fun z => hn ⟨he, by rw [eP, if_pos z]⟩
        rw [if_neg (show ¬(e = -1 ∧ (txT u n p = 2 ∧ 0 ≤ txV u n p ∧ txV u n p ≤ 999)) from fun z => c3 z.2), if_pos (show (e = -1 ∧ ¬(txT u n p = 2 ∧ 0 ≤ txV u n p ∧ txV u n p ≤ 999)) from ⟨he, c3⟩)] at T2
        rw [if_pos he]
        exact ⟨p, T2⟩
      · rw [if_neg (fun z => he z.1), if_neg (fun z => he z.1)] at T2
        rw [if_neg he]
        exact ⟨p, T2⟩
/-- what has failed ends -/
theorem lc_sumF {q : Int × (Int → Int)} {d : Nat} {t : (Int → Int) × Nat × Nat × Nat × (Int → Int → Bool)} {F f : Int → Int → Int} {a T b n p e j x : Int} {u : Int → Int} (ha : a + 7 ≤ T) (b0 : 0 ≤ b) (j0 : 0 ≤ j) (j4 : j < 400) (he : e ≠ -1) (hE : zCE F f a T b) (hT : zTC f t.1 T u n p e) : ∃ f2, (if j ≤ 0 then zD (true, q) (d + 2) zc_Law_readSum (zat zc_Law_readSum 41) [(12, a, 0), (15, T, 0), (0, 1, 0), (0, j, 0), (5, x, 0)] [] (f, t) else zD (true, q) (d + 2) zc_Law_readSum (zat zc_Law_readSum 38) [(12, a, 0), (15, T, 0), (0, 1, 0), (0, j, 0), (5, x, 0)] [] (f, t)) = some ((9, 0, 0), (f2, t)) ∧ zCE F f2 a T b ∧ zTC f2 t.1 T u n p e := by
  have fin : ∀ f1 : Int → Int → Int, zCE F f1 a T b → zTC f1 t.1 T u n p e → ∃ f2, zD (true, q) (d + 2) zc_Law_readSum (zat zc_Law_readSum 41) [(12, a, 0), (15, T, 0), (0, 1, 0), (0, j, 0), (5, x, 0)] [] (f1, t) = some ((9, 0, 0), (f2, t)) ∧ zCE F f2 a T b ∧ zTC f2 t.1 T u n p e := by
    intro f1 E1 T1
    obtain ⟨f2, r2, T2, fr2⟩ := c_passes (q := q) (d := d) (σ := (f1, t)) (W := 8) T1 (by decide)
    rw [if_neg (fun z => he z.1)] at r2 T2
    refine ⟨f2, ?_, (zCE_fp ha E1 fr2).1, T2⟩
    rw [zb_Law_readSum_41, r2, zK_i, zb_Law_readSum_44, zw_id (by omega) (by omega), zb_Law_readSum_4]
    by_cases c : 400 ≤ j + 1
    · rw [if_pos c, zb_Law_readSum_47]
    · rw [if_neg c, zb_Law_readSum_7, if_pos rfl, zb_Law_readSum_47]
  by_cases c : j ≤ 0
  · rw [if_pos c]
    exact fin f hE hT
  · rw [if_neg c]
    obtain ⟨f1, r1, E1, T1, _⟩ := c_emitE (q := q) (d := d) (v := -106) ha b0 hE hT
    rw [zb_Law_readSum_38, r1, zK_v]
    exact fin f1 E1 T1
theorem lc_sum {q : Int × (Int → Int)} {d : Nat} {t : (Int → Int) × Nat × Nat × Nat × (Int → Int → Bool)} {F : Int → Int → Int} {a T b n : Int} {u : Int → Int} (ha : a + 7 ≤ T) (b0 : 0 ≤ b) : ∀ (k : Nat) (p j x : Int) (c : List Int) (f : Int → Int → Int), zCE F f a T b → zTC f t.1 T u n p (-1) → zSeg (f (a + 5)) c b (f a 7) → f a 7 ≤ p → n ≤ p + k → 0 ≤ j → 2 * j < p → ∃ f2, zD (true, q) (d + 2) zc_Law_readSum (zat zc_Law_readSum 41) [(12, a, 0), (15, T, 0), (0, 1, 0), (0, j, 0), (5, x, 0)] [] (f, t) = some ((9, 0, 0), (f2, t)) ∧ CX F f2 t.1 a T u n b (pSumL u n k p c) := by
  have last : ∀ (p j x : Int) (c : List Int) (f : Int → Int → Int), zCE F f a T b → zTC f t.1 T u n p (-1) → zSeg (f (a + 5)) c b (f a 7) → 0 ≤ j → 2 * j < p → txT u n p ≠ 8 → ∃ f2, zD (true, q) (d + 2) zc_Law_readSum (zat zc_Law_readSum 41) [(12, a, 0), (15, T, 0), (0, 1, 0), (0, j, 0), (5, x, 0)] [] (f, t) = some ((9, 0, 0), (f2, t)) ∧ CX F f2 t.1 a T u n b (true, p, c) := by
    intro p j x c f hE hT hs j0 j2 h8
    have hp := zTC_p hT
    obtain ⟨f2, r2, T2, fr2⟩ := c_passes (q := q) (d := d) (σ := (f, t)) (W := 8) hT (by decide)
    rw [if_neg (fun z => h8 z.2)] at r2 T2
    obtain ⟨E2, s7, s5⟩ := zCE_fp ha hE fr2
    refine ⟨f2, ?_, E2, fun _ => ⟨T2, by rw [s5, s7]; exact hs⟩, fun z => absurd rfl z⟩
    rw [zb_Law_readSum_41, r2, zK_i, zb_Law_readSum_44, zw_id (by omega) (by omega), zb_Law_readSum_4, if_neg (by omega), zb_Law_readSum_7, if_pos rfl, zb_Law_readSum_47]
  intro k
  induction k with
  | zero =>
    intro p j x c f hE hT hs h7 hk j0 j2
    refine last p j x c f hE hT hs j0 j2 (fun z => ?_)
    have := txT_lt (u := u) (n := n) (p := p) (by omega)
    omega
  | succ k ih =>
    intro p j x c f hE hT hs h7 hk j0 j2
    have hp := zTC_p hT
    have e : pSumL u n (k + 1) p c = if txT u n p = 8 then (if (pPart u n (txN u n p)).1 = true then pSumL u n k (pPart u n (txN u n p)).2.1 (c ++ (pPart u n (txN u n p)).2.2 ++ [-106]) else (false, (pPart u n (txN u n p)).2.1, [])) else (true, p, c) := rfl
    rw [e]
    by_cases h8 : txT u n p = 8
    · rw [if_pos h8]
      have hl := txT_lt (u := u) (n := n) (p := p) (by omega)
      have hN := txN_rng (u := u) hl
      obtain ⟨f1, r1, T1, fr1⟩ := c_passes (q := q) (d := d) (σ := (f, t)) (W := 8) hT (by decide)
      rw [if_pos ⟨rfl, h8⟩] at r1 T1
      obtain ⟨E1, s7, s5⟩ := zCE_fp ha hE fr1
      obtain ⟨f2, r2, E2, A2, B2, C2⟩ := c_part (q := q) (d := d) (t := t) (j := j + 1) (v0 := (5, x, 0)) ha b0 (by omega) (by omega) E1 T1
      have run : zD (true, q) (d + 2) zc_Law_readSum (zat zc_Law_readSum 41) [(12, a, 0), (15, T, 0), (0, 1, 0), (0, j, 0), (5, x, 0)] [] (f, t) = zD (true, q) (d + 2) zc_Law_readSum (zat zc_Law_readSum 38) [(12, a, 0), (15, T, 0), (0, 1, 0), (0, j + 1, 0), (5, txT u n (txN u n p), 0)] [] (f2, t) := by
        rw [zb_Law_readSum_41, r1, zK_i, zb_Law_readSum_44, zw_id (by omega) (by omega)]
        rw [if_neg (by omega)] at r2
        exact r2
      by_cases hx : (pPart u n (txN u n p)).1 = true
      · rw [if_pos hx]
        have hg := pPart_go hx
        obtain ⟨T2, k2⟩ := A2 rfl hx
        obtain ⟨k3, k4⟩ := k2 (by omega)
        have hs2 := k4 c (by rw [s5, s7]; exact hs)
        obtain ⟨f3, r3, E3, T3, m3, k5⟩ := c_emitE (q := q) (d := d) (v := -106) ha b0 E2 T2
        obtain ⟨k6, k7⟩ := k5 (by omega)
        obtain ⟨f4, r4, x4⟩ := ih _ (j + 1) (txT u n (txN u n p)) _ f3 E3 T3 (k7 _ hs2) (by omega) (by omega) (by omega) (by omega)
        exact ⟨f4, by rw [run, zb_Law_readSum_38, r3, zK_v]; exact r4, x4⟩
      · rw [if_neg hx]
        obtain ⟨p2, T2⟩ := C2 (fun z => hx z.2)
        rw [if_pos rfl] at T2
        obtain ⟨f3, r3, E3, T3⟩ := lc_sumF (q := q) (d := d) (t := t) (j := j + 1) (x := txT u n (txN u n p)) ha b0 (by omega) (by omega) (show txN u n p ≠ -1 by omega) E2 T2
        rw [if_neg (by omega)] at r3
        exact ⟨f3, run.trans r3, E3, fun z => absurd z Bool.false_ne_true, fun _ => ⟨by rw [B2 rfl hx]; omega, p2, by rw [B2 rfl hx]; exact T3⟩⟩
    · rw [if_neg h8]
      exact last p j x c f hE hT hs j0 j2 h8
theorem zCE_refl {f : Int → Int → Int} {a T : Int} (h : f a 7 ≤ 400) : zCE f f a T (f a 7) := ⟨fun _ _ _ _ _ => rfl, fun _ _ => rfl, Int.le_refl _, h⟩
theorem zCE_trans {F f f2 : Int → Int → Int} {a T b : Int} (h : zCE F f a T b) (h2 : zCE f f2 a T (f a 7)) : zCE F f2 a T b := by
  obtain ⟨a1, a2, a3, a4⟩ := h
  obtain ⟨b1, b2, b3, b4⟩ := h2
  exact ⟨fun o k o1 o2 o3 => (b1 o k o1 o2 o3).trans (a1 o k o1 o2 o3), fun j hj => (b2 j (by omega)).trans (a2 j hj), by omega, b4⟩
theorem zSeg_ce {f f2 : Int → Int → Int} {a T b : Int} {c : List Int} (h2 : zCE f f2 a T (f a 7)) (h : zSeg (f (a + 5)) c b (f a 7)) : zSeg (f2 (a + 5)) c b (f a 7) := zSeg_congr _ _ _ (fun j _ j1 => h2.2.1 j j1) h
theorem c_sum {q : Int × (Int → Int)} {d : Nat} {t : (Int → Int) × Nat × Nat × Nat × (Int → Int → Bool)} {f : Int → Int → Int} {a T n p : Int} {u : Int → Int} (ha : a + 7 ≤ T) (b0 : 0 ≤ f a 7) (hT : zTC f t.1 T u n p (-1)) (h7 : f a 7 ≤ p) : ∃ f2, zM (true, q) (d + 2) 89 [(12, a, 0), (15, T, 0)] (f, t) = some ((9, 0, 0), (f2, t)) ∧ CX f f2 t.1 a T u n (f a 7) (pSum u n p) := by
  have hp := zTC_p hT
  have hE := zCE_refl (f := f) (a := a) (T := T) (by omega)
  obtain ⟨f2, r2, E2, A2, B2, C2⟩ := c_part (q := q) (d := d) (t := t) (j := 0) (v0 := (2, 0, 0)) ha b0 (Int.le_refl 0) (by decide) hE hT
  have e : pSum u n p = if (pPart u n p).1 = true then pSumL u n (n - (pPart u n p).2.1).toNat (pPart u n p).2.1 (pPart u n p).2.2 else (false, (pPart u n p).2.1, []) := rfl
  rw [ze_Law_readSum, zb_Law_readSum_0, r2, if_pos (Int.le_refl 0), e]
  by_cases hx : (pPart u n p).1 = true
  · rw [if_pos hx]
    have hg := pPart_go hx
    obtain ⟨T2, k2⟩ := A2 rfl hx
    obtain ⟨k3, k4⟩ := k2 (by omega)
    exact lc_sum ha b0 _ _ 0 (txT u n p) _ f2 E2 T2 (k4 [] ⟨rfl, b0, by omega⟩) (by omega) (by omega) (Int.le_refl 0) (by omega)
  · rw [if_neg hx]
    obtain ⟨p2, T2⟩ := C2 (fun z => hx z.2)
    rw [if_pos rfl] at T2
    obtain ⟨f3, r3, E3, T3⟩ := lc_sumF (q := q) (d := d) (t := t) (j := 0) (x := txT u n p) ha b0 (Int.le_refl 0) (by decide) (show p ≠ -1 by omega) E2 T2
    rw [if_pos (Int.le_refl 0)] at r3
    exact ⟨f3, r3, E3, fun z => absurd z Bool.false_ne_true, fun _ => ⟨by rw [B2 rfl hx]; omega, p2, by rw [B2 rfl hx]; exact T3⟩⟩
theorem c_sumF {q : Int × (Int → Int)} {d : Nat} {t : (Int → Int) × Nat × Nat × Nat × (Int → Int → Bool)} {f : Int → Int → Int} {a T n p : Int} {u : Int → Int} {e : Int} (ha : a + 7 ≤ T) (b0 : 0 ≤ f a 7) (b4 : f a 7 ≤ 400) (he : e ≠ -1) (hT : zTC f t.1 T u n p e) : ∃ f2, zM (true, q) (d + 2) 89 [(12, a, 0), (15, T, 0)] (f, t) = some ((9, 0, 0), (f2, t)) ∧ zCE f f2 a T (f a 7) ∧ ∃ p2, zTC f2 t.1 T u n p2 e := by
  have hE := zCE_refl (f := f) (a := a) (T := T) b4
  obtain ⟨f2, r2, E2, A2, B2, C2⟩ := c_part (q := q) (d := d) (t := t) (j := 0) (v0 := (2, 0, 0)) ha b0 (Int.le_refl 0) (by decide) hE hT
  obtain ⟨p2, T2⟩ := C2 (fun z => he z.1)
  rw [if_neg he] at T2
  obtain ⟨f3, r3, E3, T3⟩ := lc_sumF (q := q) (d := d) (t := t) (j := 0) (x := txT u n p) ha b0 (Int.le_refl 0) (by decide) he E2 T2
  rw [ze_Law_readSum, zb_Law_readSum_0, r2]
  exact ⟨f3, r3, E3, p2, T3⟩
