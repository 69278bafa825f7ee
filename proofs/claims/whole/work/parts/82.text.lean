/-! ## the class reads a text, thing by thing -/
def zTS (f : Int → Int → Int) (w : Int → Int) (T : Int) (u : Int → Int) (n : Int) : Prop := 0 ≤ n ∧ n ≤ 400 ∧ 0 ≤ f T 3 ∧ f T 3 ≤ 400 ∧ f (T + 2) (f T 3) = n ∧ (∀ i, 0 ≤ i → i < f T 3 → 0 ≤ f (T + 2) i ∧ f (T + 2) i < n ∧ w i = txT u n (f (T + 2) i) ∧ f (T + 3) i = txV u n (f (T + 2) i) ∧ f (T + 2) (i + 1) = txN u n (f (T + 2) i))
def zTC (f : Int → Int → Int) (w : Int → Int) (T : Int) (u : Int → Int) (n p e : Int) : Prop := zTS f w T u n ∧ 0 ≤ f T 4 ∧ f T 4 ≤ f T 3 ∧ f (T + 2) (f T 4) = p ∧ f T 5 = e
def zFP (T : Int) (f f2 : Int → Int → Int) : Prop := ∀ o k, (o ≠ T ∨ (k ≠ 4 ∧ k ≠ 5)) → f2 o k = f o k
theorem zFP_refl {T : Int} {f : Int → Int → Int} : zFP T f f := fun _ _ _ => rfl
theorem zFP_trans {T : Int} {f f2 f3 : Int → Int → Int} (h : zFP T f f2) (h2 : zFP T f2 f3) : zFP T f f3 := fun o k a => (h2 o k a).trans (h o k a)
theorem zFP_up {T k v : Int} {f : Int → Int → Int} (h : k = 4 ∨ k = 5) : zFP T f (zup f T k v) := fun o j a => zup_nka (by omega)
theorem zTS_fp {f f2 : Int → Int → Int} {w : Int → Int} {T n : Int} {u : Int → Int} (e : ∀ o k, (o = T ∧ k = 3) ∨ o = T + 2 ∨ o = T + 3 → f2 o k = f o k) (h : zTS f w T u n) : zTS f2 w T u n := by
  obtain ⟨a, b, c, g, i, j⟩ := h
  have e3 := e T 3 (Or.inl ⟨rfl, rfl⟩)
  refine ⟨a, b, by omega, by omega, ?_, fun k k0 k1 => ?_⟩
  · rw [e3, e _ _ (by omega)]
    exact i
  · rw [e _ _ (by omega), e _ _ (by omega), e _ _ (by omega)]
    exact j k k0 (by omega)
theorem zTC_p {f : Int → Int → Int} {w : Int → Int} {T n p e : Int} {u : Int → Int} (h : zTC f w T u n p e) : 0 ≤ p ∧ p ≤ n ∧ n ≤ 400 ∧ (f T 4 < f T 3 → p < n) ∧ (f T 4 = f T 3 → p = n) := by
  obtain ⟨⟨a, b, c, g, i, j⟩, p0, p1, p2, p3⟩ := h
  by_cases c9 : f T 4 < f T 3
  · have := j _ p0 c9
    rw [p2] at this
    exact ⟨this.1, by omega, b, fun _ => this.2.1, fun z => by omega⟩
  · have h9 : f T 4 = f T 3 := by omega
    have : p = n := by rw [← p2, h9, i]
    exact ⟨by omega, by omega, b, fun z => by omega, fun _ => this⟩
theorem c_word {q : Int × (Int → Int)} {d : Nat} {σ : zS} {T n p e : Int} {u : Int → Int} (h : zTC σ.1 σ.2.1 T u n p e) : zM (true, q) d 44 [(15, T, 0)] σ = some ((5, txT u n p, 0), σ) := by
  have hp := zTC_p h
  obtain ⟨⟨a, b, c, g, i, j⟩, p0, p1, p2, p3⟩ := h
  rw [ze_Tex_word, zb_Tex_word_0, if_neg (by omega), zb_Tex_word_3]
  by_cases c9 : σ.1 T 4 < σ.1 T 3
  · have := j _ p0 c9
    rw [p2] at this
    have hr := txT_rng (u := u) (n := n) (p := p)
    rw [if_neg (by omega), zb_Tex_word_8, if_neg (by omega), zb_Tex_word_14, zG2 p0 (by omega), this.2.2.1, zb_Tex_word_19, if_neg (by omega), zb_Tex_word_24]
  · have h9 : σ.1 T 4 = σ.1 T 3 := by omega
    have e0 : txT u n p = 0 := by
      unfold txT
      rw [if_pos (by have := hp.2.2.2.2 h9; omega)]
    rw [if_pos (by omega), zb_Tex_word_20, if_neg (by decide), zb_Tex_word_24, e0]
theorem c_failed {q : Int × (Int → Int)} {d : Nat} {σ : zS} {T n p e : Int} {u : Int → Int} (h : zTC σ.1 σ.2.1 T u n p e) : zM (true, q) d 46 [(15, T, 0)] σ = some ((0, if e = -1 then 0 else 1, 0), σ) := by
  have h5 := h.2.2.2.2
  by_cases c : e = -1
  · rw [if_pos c, ze_Tex_failed, zb_Tex_failed_0, if_pos (by omega), zb_Tex_failed_6, zG2 (by decide) (by decide)]
  · rw [if_neg c, ze_Tex_failed, zb_Tex_failed_0, if_neg (by omega), zb_Tex_failed_4, zG2 (by decide) (by decide)]
/-- one thing on -/
theorem zTC_next {f : Int → Int → Int} {w : Int → Int} {T n p e : Int} {u : Int → Int} (h : zTC f w T u n p e) (hl : p < n) : zTC (zup f T 4 (f T 4 + 1)) w T u n (txN u n p) e := by
  have hp := zTC_p h
  obtain ⟨hs, p0, p1, p2, p3⟩ := h
  have c9 : f T 4 < f T 3 := by
    apply Classical.byContradiction
    intro z
    have := hp.2.2.2.2 (by omega)
    omega
  have hj := hs.2.2.2.2.2 _ p0 c9
  rw [p2] at hj
  refine ⟨zTS_fp (fun o k ho => zup_nka (by omega)) hs, by rw [zupE rfl rfl]; omega, by rw [zupE rfl rfl, zup_nk (by decide)]; omega, ?_, (zup_nk (by decide)).trans p3⟩
  rw [zupE rfl rfl, zup_na (by omega)]
  exact hj.2.2.2.2
theorem c_passes {q : Int × (Int → Int)} {d : Nat} {σ : zS} {T n p e : Int} {u : Int → Int} {W : Int} (h : zTC σ.1 σ.2.1 T u n p e) (hW : W ≠ 0) : ∃ f2, zM (true, q) (d + 1) 47 [(15, T, 0), (5, W, 0)] σ = some ((0, if e = -1 ∧ txT u n p = W then 1 else 0, 0), (f2, σ.2)) ∧ zTC f2 σ.2.1 T u n (if e = -1 ∧ txT u n p = W then txN u n p else p) e ∧ zFP T σ.1 f2 := by
  have h4 := h.2.2.1
  have h44 := h.1.2.2.2.1
  have h40 := h.2.1
  rw [ze_Tex_passes, zb_Tex_passes_0, c_failed h, zK_i, zb_Tex_passes_2]
  by_cases c : e = -1
  · rw [if_pos c, if_neg (by decide), zb_Tex_passes_3, c_word h]
    show ∃ f2, zD (true, q) (d + 1) zc_Tex_passes (zat zc_Tex_passes 5) _ [(5, txT u n p, 0)] σ = _ ∧ _
    rw [zb_Tex_passes_5]
    by_cases c2 : txT u n p = W
    · rw [if_pos c2, if_pos ⟨c, c2⟩, if_pos ⟨c, c2⟩, zb_Tex_passes_9, zG2 (by decide) (by decide), zw_id (by omega) (by omega)]
      exact ⟨_, rfl, zTC_next h (txT_lt (u := u) (n := n) (p := p) (by omega)), zFP_up (by omega)⟩
    · rw [if_neg c2, if_neg (fun z => c2 z.2), if_neg (fun z => c2 z.2), zb_Tex_passes_7, zG2 (by decide) (by decide)]
      exact ⟨σ.1, rfl, h, zFP_refl⟩
  · rw [if_neg c, if_pos (by decide), if_neg (fun z => c z.1), if_neg (fun z => c z.1), zb_Tex_passes_7, zG2 (by decide) (by decide)]
    exact ⟨σ.1, rfl, h, zFP_refl⟩
theorem c_fail {q : Int × (Int → Int)} {d : Nat} {σ : zS} {T n p e : Int} {u : Int → Int} (h : zTC σ.1 σ.2.1 T u n p e) : ∃ f2, zM (true, q) d 45 [(15, T, 0)] σ = some ((9, 0, 0), (f2, σ.2)) ∧ zTC f2 σ.2.1 T u n p (if e = -1 then p else e) ∧ zFP T σ.1 f2 := by
  have h0 := h
  obtain ⟨hs, p0, p1, p2, p3⟩ := h
  have h44 := hs.2.2.2.1
  rw [ze_Tex_fail, zb_Tex_fail_0]
  by_cases c : e = -1
  · rw [if_neg (by omega), zb_Tex_fail_4, if_neg (by omega), zb_Tex_fail_8, if_neg (by omega), zb_Tex_fail_14, zG2 p0 (by omega), zb_Tex_fail_19, if_pos c, p2]
    exact ⟨_, rfl, ⟨zTS_fp (fun o k ho => zup_nka (by omega)) hs, by rw [zup_nk (by decide)]; exact p0, by rw [zup_nk (by decide), zup_nk (by decide)]; exact p1, by rw [zup_nk (show (4 : Int) ≠ 5 by decide), zup_na (by omega)]; exact p2, zupE rfl rfl⟩, zFP_up (by omega)⟩
  · rw [if_pos (by omega), zb_Tex_fail_22, if_neg c]
    exact ⟨σ.1, rfl, h0, zFP_refl⟩
theorem c_needs {q : Int × (Int → Int)} {d : Nat} {σ : zS} {T n p e : Int} {u : Int → Int} {W : Int} (h : zTC σ.1 σ.2.1 T u n p e) (hW : W ≠ 0) : ∃ f2, zM (true, q) (d + 2) 49 [(15, T, 0), (5, W, 0)] σ = some ((9, 0, 0), (f2, σ.2)) ∧ zTC f2 σ.2.1 T u n (if e = -1 ∧ txT u n p = W then txN u n p else p) (if e = -1 ∧ txT u n p ≠ W then p else e) ∧ zFP T σ.1 f2 := by
  obtain ⟨f1, r1, h1, fr1⟩ := c_passes (q := q) (d := d) h hW
  rw [ze_Tex_needs, zb_Tex_needs_0, r1, zK_i, zb_Tex_needs_3]
  by_cases c : e = -1 ∧ txT u n p = W
  · rw [if_pos c] at h1
    rw [if_pos c, if_pos (by decide), if_pos c, if_neg (fun z => z.2 c.2), zb_Tex_needs_6]
    exact ⟨f1, rfl, h1, fr1⟩
  · rw [if_neg c] at h1
    obtain ⟨f2, r2, h2, fr2⟩ := c_fail (q := q) (d := d + 1) (σ := (f1, σ.2)) h1
    rw [if_neg c, if_neg (fun z => z rfl), if_neg c, zb_Tex_needs_4, r2, zK_v, zb_Tex_needs_6]
    refine ⟨f2, rfl, ?_, zFP_trans fr1 fr2⟩
    by_cases c1 : e = -1
    · rw [if_pos c1] at h2
      rw [if_pos ⟨c1, fun z => c ⟨c1, z⟩⟩]
      exact h2
    · rw [if_neg c1] at h2
      rw [if_neg (fun z => c1 z.1)]
      exact h2
theorem c_number {q : Int × (Int → Int)} {d : Nat} {σ : zS} {T n p e : Int} {u : Int → Int} {lo hi : Int} (h : zTC σ.1 σ.2.1 T u n p e) : ∃ f2, zM (true, q) (d + 1) 48 [(15, T, 0), (0, lo, 0), (0, hi, 0)] σ = some ((0, if e = -1 ∧ (txT u n p = 2 ∧ lo ≤ txV u n p ∧ txV u n p ≤ hi) then txV u n p else lo, 0), (f2, σ.2)) ∧ zTC f2 σ.2.1 T u n (if e = -1 ∧ (txT u n p = 2 ∧ lo ≤ txV u n p ∧ txV u n p ≤ hi) then txN u n p else p) (if e = -1 ∧ ¬(txT u n p = 2 ∧ lo ≤ txV u n p ∧ txV u n p ≤ hi) then p else e) ∧ zFP T σ.1 f2 := by
  have h0 := h
  have hp := zTC_p h
  obtain ⟨hs, p0, p1, p2, p3⟩ := h
  have h44 := hs.2.2.2.1
  have hv : txT u n p = 2 → σ.1 (T + 3) (σ.1 T 4) = txV u n p := fun z => by
    have hl := txT_lt (u := u) (n := n) (p := p) (by omega)
    have c9 : σ.1 T 4 < σ.1 T 3 := by
      apply Classical.byContradiction
      intro y
      have := hp.2.2.2.2 (by omega)
      omega
    have hj := hs.2.2.2.2.2 _ p0 c9
    rw [p2] at hj
    exact hj.2.2.2.1
  obtain ⟨f2, r2, h2, fr2⟩ := c_fail (q := q) (d := d) h0
  rw [ze_Tex_number, zb_Tex_number_0, s_at p0 (by omega), zK_i, zb_Tex_number_5, c_failed h0, zK_i, zb_Tex_number_8]
  by_cases c1 : e = -1
  · rw [if_pos c1] at h2
    rw [if_pos c1, if_neg (by decide), zb_Tex_number_9, c_word h0]
    show ∃ f2, zD (true, q) (d + 1) zc_Tex_number (zat zc_Tex_number 11) _ [(5, txT u n p, 0)] σ = _ ∧ _
    rw [zb_Tex_number_11]
    by_cases c2 : txT u n p = 2 ∧ lo ≤ txV u n p ∧ txV u n p ≤ hi
    · have hv := hv c2.1
      rw [if_neg (fun z => z c2.1), zb_Tex_number_13, if_neg (by omega), zb_Tex_number_16, if_pos (by omega), zb_Tex_number_23, if_pos ⟨c1, c2⟩, if_pos ⟨c1, c2⟩, if_neg (fun z => z.2 c2), hv, zw_id (by omega) (by omega)]
      exact ⟨_, rfl, zTC_next h0 (txT_lt (u := u) (n := n) (p := p) (by omega)), zFP_up (by omega)⟩
    · rw [if_neg (show ¬(e = -1 ∧ (txT u n p = 2 ∧ lo ≤ txV u n p ∧ txV u n p ≤ hi)) from fun z => c2 z.2), if_neg (show ¬(e = -1 ∧ (txT u n p = 2 ∧ lo ≤ txV u n p ∧ txV u n p ≤ hi)) from fun z => c2 z.2), if_pos (show e = -1 ∧ ¬(txT u n p = 2 ∧ lo ≤ txV u n p ∧ txV u n p ≤ hi) from ⟨c1, c2⟩)]
      have run : zD (true, q) (d + 1) zc_Tex_number (zat zc_Tex_number 19) [(15, T, 0), (0, lo, 0), (0, hi, 0), (0, σ.1 (T + 3) (σ.1 T 4), 0)] [] σ = some ((0, lo, 0), (f2, σ.2)) := by
        rw [zb_Tex_number_19, r2, zK_v, zb_Tex_number_21]
      refine ⟨f2, ?_, h2, fr2⟩
      by_cases c3 : txT u n p = 2
      · have hv := hv c3
        rw [if_neg (fun z => z c3), zb_Tex_number_13]
        by_cases c4 : σ.1 (T + 3) (σ.1 T 4) < lo
        · rw [if_pos c4]
          exact run
        · rw [if_neg c4, zb_Tex_number_16, if_neg (by omega)]
          exact run
      · rw [if_pos c3]
        exact run
  · rw [if_neg c1] at h2
    rw [if_neg c1, if_pos (by decide), zb_Tex_number_19, r2, zK_v, zb_Tex_number_21, if_neg (fun z => c1 z.1), if_neg (fun z => c1 z.1), if_neg (fun z => c1 z.1)]
    exact ⟨f2, rfl, h2, fr2⟩
theorem c_goesOn {q : Int × (Int → Int)} {d : Nat} {σ : zS} {T n p e : Int} {u : Int → Int} (h : zTC σ.1 σ.2.1 T u n p e) : ∃ f2, zM (true, q) (d + 2) 54 [(15, T, 0)] σ = some ((0, if e = -1 ∧ txT u n p = 3 then 1 else 0, 0), (f2, σ.2)) ∧ zTC f2 σ.2.1 T u n (if e = -1 ∧ txT u n p = 3 then txN u n p else p) (if e = -1 ∧ txT u n p ≠ 3 ∧ txT u n p ≠ 0 then p else e) ∧ zFP T σ.1 f2 := by
  obtain ⟨f1, r1, h1, fr1⟩ := c_passes (q := q) (d := d) (W := 3) h (by decide)
  rw [ze_Tex_goesOn, zb_Tex_goesOn_0, r1, zK_i, zb_Tex_goesOn_3]
  by_cases c : e = -1 ∧ txT u n p = 3
  · rw [if_pos c] at h1
    rw [if_pos c, if_neg (by decide), if_pos c, if_neg (fun z => z.2.1 c.2), zb_Tex_goesOn_4, zG2 (by decide) (by decide)]
    exact ⟨f1, rfl, h1, fr1⟩
  · rw [if_neg c] at h1
    rw [if_neg c, if_pos rfl, if_neg c, zb_Tex_goesOn_6, c_word (σ := (f1, σ.2)) h1]
    show ∃ f2, zD (true, q) (d + 2) zc_Tex_goesOn (zat zc_Tex_goesOn 8) _ [(5, txT u n p, 0)] (f1, σ.2) = _ ∧ _
    rw [zb_Tex_goesOn_8]
    by_cases c2 : txT u n p = 0
    · rw [if_pos c2, zb_Tex_goesOn_12, zG2 (by decide) (by decide), if_neg (fun z => z.2.2 c2)]
      exact ⟨f1, rfl, h1, fr1⟩
    · obtain ⟨f2, r2, h2, fr2⟩ := c_fail (q := q) (d := d + 1) (σ := (f1, σ.2)) h1
      rw [if_neg c2, zb_Tex_goesOn_10, r2, zK_v, zb_Tex_goesOn_12, zG2 (by decide) (by decide)]
      refine ⟨f2, rfl, ?_, zFP_trans fr1 fr2⟩
      by_cases c1 : e = -1
      · rw [if_pos c1] at h2
        rw [if_pos ⟨c1, fun z => c ⟨c1, z⟩, c2⟩]
        exact h2
      · rw [if_neg c1] at h2
        rw [if_neg (fun z => c1 z.1)]
        exact h2
theorem c_emit {q : Int × (Int → Int)} {d : Nat} {σ : zS} {a c : Int} (h0 : 0 ≤ σ.1 a 7) (h4 : σ.1 a 7 ≤ 400) : zM (true, q) (d + 1) 88 [(12, a, 0), (0, c, 0)] σ = some ((9, 0, 0), (if σ.1 a 7 < 400 then zup (zup σ.1 (a + 5) (σ.1 a 7) c) a 7 (σ.1 a 7 + 1) else σ.1, σ.2)) := by
  by_cases c4 : σ.1 a 7 < 400
  · rw [if_pos c4, ze_Law_emit, zb_Law_emit_0, if_neg (by omega), zb_Law_emit_6, s_put h0 (by omega), zK_v, zb_Law_emit_12]
    simp (disch := omega) only [zup_na, zw_id]
  · rw [if_neg c4, ze_Law_emit, zb_Law_emit_0, if_pos (by omega), zb_Law_emit_18]
