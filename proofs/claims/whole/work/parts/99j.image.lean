/-! ## acts undone, the image -/
theorem zLOs_copy {h h2 : Int → Int → Int} {a a2 b N : Int} (e1 : ∀ c k, 1 ≤ c → c ≤ 4 → 0 ≤ k → k < N → h2 (a2 + c) k = h (a + c) k) (e2 : ∀ j, 0 ≤ j → j < b → h2 (a2 + 5) j = h (a + 5) j) : ∀ (ls : List (Int × Int × List Int)) (i : Int), 0 ≤ i → i + ls.length ≤ N → (∀ j, i ≤ j → j < N → h (a + 4) j ≤ b) → zLOs h a ls i → zLOs h2 a2 ls i := by
  intro ls
  induction ls with
  | nil => intro i _ _ _ _; exact trivial
  | cons m ls ih =>
    intro i i0 hi hb hh
    rw [List.length_cons] at hi
    obtain ⟨x1, x2, x3, x4, x5⟩ := hh
    refine ⟨(e1 _ _ (by decide) (by decide) i0 (by omega)).trans x1, (e1 _ _ (by decide) (by decide) i0 (by omega)).trans x2, ?_, x4, ih (i + 1) (by omega) (by omega) (fun j j0 j1 => hb j (by omega) j1) x5⟩
    have e3 : h2 (a2 + 3) i = h (a + 3) i := e1 3 i (by decide) (by decide) i0 (by omega)
    have e4 : h2 (a2 + 4) i = h (a + 4) i := e1 4 i (by decide) (by decide) i0 (by omega)
    rw [e3, e4]
    have hbi := hb i (Int.le_refl i) (by omega)
    have hs := zSeg_rng _ _ _ x3
    exact zSeg_congr _ _ _ (fun j j0 j1 => e2 j (by omega) (by omega)) x3
theorem c_lawCp {q : Int × (Int → Int)} {d : Nat} {t : (Int → Int) × Nat × Nat × Nat × (Int → Int → Bool)} {f : Int → Int → Int} {a b : Int} (hab : b + 6 ≤ a ∨ a + 6 ≤ b) (h6 : f b 6 ≤ 12) (h7 : f b 7 ≤ 400) : ∃ f2, zM (true, q) (d + 1) 94 [(12, a, 0), (12, b, 0)] (f, t) = some ((9, 0, 0), (f2, t)) ∧ f2 a 6 = f b 6 ∧ f2 a 7 = f b 7 ∧ (∀ c k, 1 ≤ c → c ≤ 4 → 0 ≤ k → k < f b 6 → f2 (a + c) k = f (b + c) k) ∧ (∀ k, 0 ≤ k → k < f b 7 → f2 (a + 5) k = f (b + 5) k) ∧ (∀ o k, (o < a ∨ a + 6 ≤ o) → f2 o k = f o k) := by
  have x6 : zup (zup f a 6 (f b 6)) a 7 (f b 7) a 6 = f b 6 := by rw [zup_nk (by decide), zupE rfl rfl]
  have x7 : zup (zup f a 6 (f b 6)) a 7 (f b 7) a 7 = f b 7 := zupE rfl rfl
  have y7 : zup f a 6 (f b 6) b 7 = f b 7 := zup_na (by omega)
  refine ⟨(zcpy (zcpy (zcpy (zcpy (zcpy (zup (zup f a 6 (f b 6)) a 7 (f b 7)) (b + 1) 0 (a + 1) 0 (f b 6)) (b + 2) 0 (a + 2) 0 (f b 6)) (b + 3) 0 (a + 3) 0 (f b 6)) (b + 4) 0 (a + 4) 0 (f b 6)) (b + 5) 0 (a + 5) 0 (f b 7)), ?_, ?_, ?_, fun c k c1 c4 k0 k1 => ?_, fun k k0 k1 => ?_, fun o k ho => ?_⟩
  · rw [ze_Law_copyFrom, zb_Law_copyFrom_0]
    show zK _ _ _ _ _ _ (zM (true, q) d 38 [(30, b + 1, 12), (30, a + 1, 12), (0, zup (zup f a 6 (f b 6)) a 7 (zup f a 6 (f b 6) b 7) a 6, 0)] (zup (zup f a 6 (f b 6)) a 7 (zup f a 6 (f b 6) b 7), t)) = _
    rw [y7, x6, s_copyRow h6 h6, zK_v, zb_Law_copyFrom_15]
    show zK _ _ _ _ _ _ (zM (true, q) d 38 [(30, b + 2, 12), (30, a + 2, 12), (0, (zcpy (zup (zup f a 6 (f b 6)) a 7 (f b 7)) (b + 1) 0 (a + 1) 0 (f b 6)) a 6, 0)] ((zcpy (zup (zup f a 6 (f b 6)) a 7 (f b 7)) (b + 1) 0 (a + 1) 0 (f b 6)), t)) = _
    rw [show (zcpy (zup (zup f a 6 (f b 6)) a 7 (f b 7)) (b + 1) 0 (a + 1) 0 (f b 6)) a 6 = f b 6 by simp (disch := omega) only [zcpy_na, x6, x7], s_copyRow h6 h6, zK_v, zb_Law_copyFrom_22]
    show zK _ _ _ _ _ _ (zM (true, q) d 38 [(30, b + 3, 12), (30, a + 3, 12), (0, (zcpy (zcpy (zup (zup f a 6 (f b 6)) a 7 (f b 7)) (b + 1) 0 (a + 1) 0 (f b 6)) (b + 2) 0 (a + 2) 0 (f b 6)) a 6, 0)] ((zcpy (zcpy (zup (zup f a 6 (f b 6)) a 7 (f b 7)) (b + 1) 0 (a + 1) 0 (f b 6)) (b + 2) 0 (a + 2) 0 (f b 6)), t)) = _
    rw [show (zcpy (zcpy (zup (zup f a 6 (f b 6)) a 7 (f b 7)) (b + 1) 0 (a + 1) 0 (f b 6)) (b + 2) 0 (a + 2) 0 (f b 6)) a 6 = f b 6 by simp (disch := omega) only [zcpy_na, x6, x7], s_copyRow h6 h6, zK_v, zb_Law_copyFrom_29]
    show zK _ _ _ _ _ _ (zM (true, q) d 38 [(30, b + 4, 12), (30, a + 4, 12), (0, (zcpy (zcpy (zcpy (zup (zup f a 6 (f b 6)) a 7 (f b 7)) (b + 1) 0 (a + 1) 0 (f b 6)) (b + 2) 0 (a + 2) 0 (f b 6)) (b + 3) 0 (a + 3) 0 (f b 6)) a 6, 0)] ((zcpy (zcpy (zcpy (zup (zup f a 6 (f b 6)) a 7 (f b 7)) (b + 1) 0 (a + 1) 0 (f b 6)) (b + 2) 0 (a + 2) 0 (f b 6)) (b + 3) 0 (a + 3) 0 (f b 6)), t)) = _
    rw [show (zcpy (zcpy (zcpy (zup (zup f a 6 (f b 6)) a 7 (f b 7)) (b + 1) 0 (a + 1) 0 (f b 6)) (b + 2) 0 (a + 2) 0 (f b 6)) (b + 3) 0 (a + 3) 0 (f b 6)) a 6 = f b 6 by simp (disch := omega) only [zcpy_na, x6, x7], s_copyRow h6 h6, zK_v, zb_Law_copyFrom_36]
    show zK _ _ _ _ _ _ (zM (true, q) d 38 [(30, b + 5, 400), (30, a + 5, 400), (0, (zcpy (zcpy (zcpy (zcpy (zup (zup f a 6 (f b 6)) a 7 (f b 7)) (b + 1) 0 (a + 1) 0 (f b 6)) (b + 2) 0 (a + 2) 0 (f b 6)) (b + 3) 0 (a + 3) 0 (f b 6)) (b + 4) 0 (a + 4) 0 (f b 6)) a 7, 0)] ((zcpy (zcpy (zcpy (zcpy (zup (zup f a 6 (f b 6)) a 7 (f b 7)) (b + 1) 0 (a + 1) 0 (f b 6)) (b + 2) 0 (a + 2) 0 (f b 6)) (b + 3) 0 (a + 3) 0 (f b 6)) (b + 4) 0 (a + 4) 0 (f b 6)), t)) = _
    rw [show (zcpy (zcpy (zcpy (zcpy (zup (zup f a 6 (f b 6)) a 7 (f b 7)) (b + 1) 0 (a + 1) 0 (f b 6)) (b + 2) 0 (a + 2) 0 (f b 6)) (b + 3) 0 (a + 3) 0 (f b 6)) (b + 4) 0 (a + 4) 0 (f b 6)) a 7 = f b 7 by simp (disch := omega) only [zcpy_na, x6, x7], s_copyRow h7 h7, zK_v, zb_Law_copyFrom_43]
  · simp (disch := omega) only [zcpy_na, x6]
  · simp (disch := omega) only [zcpy_na, x7]
  · rcases (by omega : c = 1 ∨ c = 2 ∨ c = 3 ∨ c = 4) with rfl | rfl | rfl | rfl
    · rw [zcpy_na (by omega), zcpy_na (by omega), zcpy_na (by omega), zcpy_na (by omega), zcpy_in rfl (by omega) (by omega), zup_na (by omega), zup_na (by omega), Int.sub_zero, Int.zero_add]
    · rw [zcpy_na (by omega), zcpy_na (by omega), zcpy_na (by omega), zcpy_in rfl (by omega) (by omega), zcpy_na (by omega), zup_na (by omega), zup_na (by omega), Int.sub_zero, Int.zero_add]
    · rw [zcpy_na (by omega), zcpy_na (by omega), zcpy_in rfl (by omega) (by omega), zcpy_na (by omega), zcpy_na (by omega), zup_na (by omega), zup_na (by omega), Int.sub_zero, Int.zero_add]
    · rw [zcpy_na (by omega), zcpy_in rfl (by omega) (by omega), zcpy_na (by omega), zcpy_na (by omega), zcpy_na (by omega), zup_na (by omega), zup_na (by omega), Int.sub_zero, Int.zero_add]
  · rw [zcpy_in rfl (by omega) (by omega), zcpy_na (by omega), zcpy_na (by omega), zcpy_na (by omega), zcpy_na (by omega), zup_na (by omega), zup_na (by omega), Int.sub_zero, Int.zero_add]
  · rw [zcpy_na (by omega), zcpy_na (by omega), zcpy_na (by omega), zcpy_na (by omega), zcpy_na (by omega), zup_na (by omega), zup_na (by omega)]
theorem zRL_len {f : Int → Int → Int} {a : Int} {g : Int → Int} (h : zRL f a g) : f a 6 ≤ 12 ∧ f a 7 ≤ 400 := by
  obtain ⟨h0, w, ls, h1, h2, h3, h4, h5, h6, h7, h8, h9⟩ := h
  have hv := pLaw_v h2.1
  rw [← h3] at hv
  have hl := hv.2
  refine ⟨?_, h8⟩
  rcases h5 with h5 | ⟨h5, _⟩ <;> omega
theorem zRL_copy {q : Int × (Int → Int)} {d : Nat} {t : (Int → Int) × Nat × Nat × Nat × (Int → Int → Bool)} {f : Int → Int → Int} {a b : Int} {g : Int → Int} (hab : b + 6 ≤ a ∨ a + 6 ≤ b) (h : zRL f b g) : ∃ f2, zM (true, q) (d + 1) 94 [(12, a, 0), (12, b, 0)] (f, t) = some ((9, 0, 0), (f2, t)) ∧ zRL f2 a g ∧ (∀ o k, (o < a ∨ a + 6 ≤ o) → f2 o k = f o k) := by
  have hl := zRL_len h
  obtain ⟨f2, r2, e6, e7, e1, e5, fr⟩ := c_lawCp (q := q) (d := d) (t := t) hab hl.1 hl.2
  refine ⟨f2, r2, ?_, fr⟩
  obtain ⟨h0, w, ls, h1, h2, h3, h4, h5, h6, h7, h8, h9⟩ := h
  refine ⟨h0, w, ls, h1, h2, h3, by rw [e6]; exact h4, by rw [e6]; exact h5, ?_, by rw [e7]; exact h7, by rw [e7]; exact h8, fun j j0 j1 => ?_⟩
  · rcases h5 with h5 | ⟨h5, h5b⟩
    · exact zLOs_copy (b := f b 7) (N := ls.length) (fun c k c1 c4 k0 k1 => e1 c k c1 c4 k0 (by omega)) e5 ls 0 (Int.le_refl 0) (by omega) (fun j j0 j1 => h9 j j0 j1) h6
    · rw [h5b]
      exact trivial
  · have hj : j < f b 6 := by
      rcases h5 with h5 | ⟨h5, h5b⟩
      · omega
      · rw [h5b] at j1
        have : j < 0 := j1
        omega
    rw [e7, e1 4 j (by decide) (by decide) j0 hj]
    exact h9 j j0 j1
/-! ### undo -/
theorem o_undo {q : Int × (Int → Int)} {N : Int} {f : Int → Int → Int} {t : (Int → Int) × Nat × Nat × Nat × (Int → Int → Bool)} (hR : ZR N f f) : zOu q N f t 307 [(19, 0, 0)] 308 [(20, 1464, 0)] := by
  obtain ⟨r0, ⟨w1, w2, w3, w4⟩, r2, r3, r4, ⟨a1, a2, a3, a4, a5, a6⟩, r6⟩ := id hR
  by_cases hA : f 1464 6 = 0
  · refine zOu_1 (v := 0) hR ?_ ?_
    · rw [ze_X_undo, zb_X_undo_0]
      show (if 0 < f 0 16 then _ else _) = _
      rw [a3, if_neg (by omega), zb_X_undo_3, zG2 (by decide) (by decide)]
    · have e : zrow (zup f 1464 0 0) 1465 (f 1465) = zup f 1464 0 0 := by
        rw [show f 1465 = zup f 1464 0 0 1465 from (zup_row (by decide)).symm, zrow_id]
      rw [zrow_id, e]
      exact r_undo0 hA
  · generalize hB : f 1464 6 - 1 = A
    have hB2 : f 1464 6 = A + 1 := by omega
    generalize hL : f 0 15 = V at a4 a5 a6
    have n6 := a6 0 (Int.le_refl 0) (by omega)
    rw [show (V + 12 - 0) % 12 = V by omega, show f 1464 6 - 1 - 0 = A by omega] at n6
    obtain ⟨⟨m1, m2, m3, m4⟩, n1, n2⟩ := n6
    obtain ⟨f2, x2, G2, L2, fr2⟩ := c_world (q := q) (d := 1895) (t := t) (U := 23) (W := 324 + 95 * V) (by omega) m3.1 m3.2.1 m3.2.2.1.2.2.2.2 (fun o o0 o1 => (m3.2.2.2 o o0 o1).1.1) m1 m2
    generalize hU : (V + 11) % 12 = U
    have U0 : 0 ≤ U ∧ U < 12 := by omega
    generalize hf3 : zup (zup f2 0 15 U) 0 16 A = f3
    have e15 : f2 0 15 = V := (fr2 _ _ (by omega)).trans hL
    have e16 : f2 0 16 = A + 1 := (fr2 _ _ (by omega)).trans (a3.trans hB2)
    have fr3 : ∀ o k, (o ≠ 0 ∨ (k ≠ 15 ∧ k ≠ 16)) → (o < 23 ∨ 118 ≤ o) → f3 o k = f o k := fun o k ho hk => by
      rw [← hf3, zup_nka (by omega), zup_nka (by omega)]
      exact fr2 o k (by omega)
    obtain ⟨h2, y2, hc1, hc2⟩ := r_undo1 (q := q) (d := 1899) (t := t) (f := f3) (A := A) ((fr3 _ _ (by omega) (by omega)).trans hB2) (by omega) (by omega)
    have hm : ∀ o k, o ≠ 1465 → (o ≠ 1464 ∨ (k ≠ 0 ∧ k ≠ 6)) → h2 o k = f3 o k := fun o k ho hk => by
      rw [hc2 o k (by omega), zup_nka (by omega), zup_nka (by omega)]
    have hg : ∀ j, 0 ≤ j → j < 1310 → h2 1465 j = zact f A j := fun j j0 j1 => by
      have := hc1 j j0 j1
      rw [Int.zero_add, zup_na (by decide), zup_na (by decide), fr3 _ _ (by omega) (by omega)] at this
      exact this
    have hg2 : ∀ j, (j < 0 ∨ 1310 ≤ j) → h2 1465 j = f 1465 j := fun j hj => by
      rw [hc2 1465 j (by omega), zup_na (by decide), zup_na (by decide), fr3 _ _ (by omega) (by omega)]
    have h66 : h2 1464 6 = A := by
      rw [hc2 1464 6 (by omega), zupE rfl rfl]
    have hrow : ∀ o, 1466 ≤ o → h2 o = f o := fun o ho => funext fun k => by
      rw [hm o k (by omega) (by omega), fr3 o k (by omega) (by omega)]
    have hfld : ∀ k, k ≠ 0 → k ≠ 6 → h2 1464 k = f 1464 k := fun k k1 k2 => by
      rw [hm 1464 k (by omega) (by omega), fr3 1464 k (by omega) (by omega)]
    have R : ZR N f3 h2 := by
      refine ⟨r0, zRW_g (g := zact f A) hg ⟨?_, ?_, m3, m4⟩, zRL_g (fun j hj => ?_) (zRL_c (f := f) (fun o k o0 o1 => fr3 o k (by omega) (by omega)) r2), ?_, zRI_c (fun o k ho => fr3 o k (by omega) (by omega)) (hfld 3 (by decide) (by decide)) (hrow 1466 (by decide)) r4, ⟨by omega, by omega, ?_, ?_, ?_, fun i i0 i1 => ?_⟩, ?_⟩
      · rw [← hf3]
        exact zGC_c (fun o k o0 o1 o2 => by rw [zup_na (by omega), zup_na (by omega)]) G2
      · rw [← hf3]
        exact zWL_c m3.2.1 (fun o k o0 o1 => by rw [zup_na (by omega), zup_na (by omega)]) L2
      · rcases hj with rfl | rfl | hj
        · rw [hg 1 (by decide) (by decide), n1]
        · rw [hg 2 (by decide) (by decide), n2]
        · exact hg2 j (by omega)
      · unfold zRT
        rw [hfld 8 (by decide) (by decide), hrow 1469 (by decide), fr3 0 12 (by omega) (by omega), show f3 1 = f 1 from funext fun k => fr3 1 k (by omega) (by omega)]
        exact r3
      · rw [h66, ← hf3, zupE rfl rfl]
      · rw [← hf3, zup_nk (by decide), zupE rfl rfl]
        exact U0.1
      · rw [← hf3, zup_nk (by decide), zupE rfl rfl]
        exact U0.2
      · rw [h66] at i1 ⊢
        have z15 : f3 0 15 = U := by rw [← hf3, zup_nk (by decide), zupE rfl rfl]
        have ni := a6 (i + 1) (by omega) (by omega)
        rw [show (V + 12 - (i + 1)) % 12 = (U + 12 - i) % 12 by omega, show f 1464 6 - 1 - (i + 1) = A - 1 - i by omega] at ni
        have ez : zact h2 (A - 1 - i) = zact f (A - 1 - i) := by
          funext k
          unfold zact
          rw [hrow 1468 (by decide)]
        rw [z15, ez, hg 1 (by decide) (by decide), hg 2 (by decide) (by decide), n1, n2]
        refine ⟨zRW_c (fun o k o0 o1 _ => fr3 o k (by omega) (by omega)) ni.1, ni.2⟩
      · rw [hfld 12 (by decide) (by decide), fr3 0 13 (by omega) (by omega)]
        exact ⟨r6.1, zB3_fr (fun k k0 k1 => hfld k (by omega) (by omega)) r6.2⟩
    refine ⟨1, f3, t, h2, ?_, y2, ZR_c (fun o k ho => ?_) zHk_refl R, zTt_refl⟩
    · rw [ze_X_undo, zb_X_undo_0]
      show (if 0 < f 0 16 then _ else _) = _
      rw [a3, if_pos (by omega), zb_X_undo_5]
      show zK _ _ _ _ _ _ (zM (true, q) 1898 182 [(19, 0, 0), (0, f 0 15, 0)] (f, t)) = _
      rw [hL, ze_X_rememberedAt, zb_X_rememberedAt_0, if_neg (by omega), zb_X_rememberedAt_2, if_neg (by omega), zb_X_rememberedAt_7, zG2 (by omega) (by omega), zb_X_rememberedAt_11, zK_18, zb_X_undo_11, show (0 : Int) + 308 + 16 + 95 * V = 324 + 95 * V by omega]
      show zK _ _ _ _ _ _ (zM (true, q) 1898 43 [(18, 23, 0), (18, 324 + 95 * V, 0)] (f, t)) = _
      rw [x2, zK_v, zb_X_undo_12, zG1 (by decide)]
      show zD (true, q) 1899 zc_X_undo (zat zc_X_undo 21) [(19, 0, 0)] [(0, zrem (zw (zw (f2 0 15 + 12) - 1)) 12, 0), (19, 0, 0)] (f2, t) = _
      rw [e15, zw_id (z := V + 12) (by omega) (by omega), zw_id (z := V + 12 - 1) (by omega) (by omega), show zrem (V + 12 - 1) 12 = U from (Int.tmod_eq_emod_of_nonneg (by omega)).trans (by omega), zb_X_undo_21, zG2 (by decide) (by decide)]
      show some ((0, 1, 0), (zup (zup f2 0 15 U) 0 16 (zw (zup f2 0 15 U 0 16 - 1)), t)) = _
      rw [zup_nk (by decide), e16, zw_id (by omega) (by omega), show A + 1 - 1 = A by omega, hf3]
    · exact hm o k (by omega) (by omega)
/-! ### the image -/
def zOi (q : Int × (Int → Int)) (N : Int) (f : Int → Int → Int) (t : (Int → Int) × Nat × Nat × Nat × (Int → Int → Bool)) : Prop := ∃ f1 f2, zM (true, q) 1899 309 [(19, 0, 0)] (f, t) = some ((9, 0, 0), (f1, t)) ∧ zM (true, q) 1899 310 [(20, 1464, 0)] (f1, t) = some ((9, 0, 0), (f2, t)) ∧ ZR N f2 f2
theorem o_image {q : Int × (Int → Int)} {N : Int} {f : Int → Int → Int} {t : (Int → Int) × Nat × Nat × Nat × (Int → Int → Bool)} (hR : ZR N f f) : zOi q N f t := by
  obtain ⟨r0, r1, r2, r3, r4, r5, r6⟩ := id hR
  have r1' := r1
  obtain ⟨w1, w2, w3, w4⟩ := r1'
  obtain ⟨f2, x2, G2, L2, fr2⟩ := c_world (q := q) (d := 1895) (t := t) (U := 213) (W := 23) (by omega) w3.1 w3.2.1 w3.2.2.1.2.2.2.2 (fun o o0 o1 => (w3.2.2.2 o o0 o1).1.1) w1 w2
  obtain ⟨f3, x3, H3, fr3⟩ := zRL_copy (q := q) (d := 1897) (t := t) (a := 16) (b := 2) (by omega) (zRL_c (f := f) (f2 := f2) (fun o k o0 o1 => fr2 o k (by omega)) r2)
  generalize hf4 : zup f3 0 14 1 = f4
  have fr4 : ∀ o k, (o < 16 ∨ (22 ≤ o ∧ o < 213) ∨ 308 ≤ o) → (o ≠ 0 ∨ k ≠ 14) → f4 o k = f o k := fun o k ho hk => by
    rw [← hf4, zup_nka (by omega), fr3 o k (by omega), fr2 o k (by omega)]
  obtain ⟨h1, y1, hc1, hc2⟩ := r_image (q := q) (d := 1899) (t := t) (f := f4)
  generalize hh2 : zup h1 1464 3 1 = h2 at y1
  have hm : ∀ o k, o ≠ 1466 → (o ≠ 1464 ∨ (k ≠ 0 ∧ k ≠ 3)) → h2 o k = f4 o k := fun o k ho hk => by
    rw [← hh2, zup_nka (by omega), hc2 o k (by omega), zup_nka (by omega)]
  have hg : ∀ j, 0 ≤ j → j < 1710 → h2 1466 j = f 1465 j := fun j j0 j1 => by
    have := hc1 j j0 j1
    rw [Int.zero_add, zup_na (by decide), fr4 _ _ (by omega) (by omega)] at this
    rw [← hh2, zup_na (by decide)]
    exact this
  have hg2 : ∀ j, 1710 ≤ j → h2 1466 j = 0 := fun j hj => by
    rw [← hh2, zup_na (by decide), hc2 1466 j (by omega), zup_na (by decide), fr4 _ _ (by omega) (by omega)]
    exact r4.1.2 j hj
  have h33 : h2 1464 3 = 1 := by rw [← hh2, zupE rfl rfl]
  have hrow : ∀ o, (o = 1465 ∨ o = 1468 ∨ o = 1469) → h2 o = f o := fun o ho => funext fun k => by
    rw [hm o k (by omega) (by omega), fr4 o k (by omega) (by omega)]
  have hfld : ∀ k, k ≠ 0 → k ≠ 3 → h2 1464 k = f 1464 k := fun k k1 k2 => by
    rw [hm 1464 k (by omega) (by omega), fr4 1464 k (by omega) (by omega)]
  have R : ZR N f4 h2 := by
    refine ⟨r0, by rw [hrow 1465 (by omega)]; exact zRW_c (fun o k o0 o1 o2 => fr4 o k (by omega) (by omega)) r1, by rw [hrow 1465 (by omega)]; exact zRL_c (fun o k o0 o1 => fr4 o k (by omega) (by omega)) r2, ?_, ⟨⟨?_, hg2⟩, Or.inr ⟨h33, ?_, ?_⟩⟩, zRA_c (fun o k ho => fr4 o k (by omega) (by omega)) (hfld 6 (by decide) (by decide)) (hrow 1468 (by omega)) (by rw [hrow 1465 (by omega)]) (by rw [hrow 1465 (by omega)]) r5, ?_⟩
    · unfold zRT
      rw [hfld 8 (by decide) (by decide), hrow 1469 (by omega), fr4 0 12 (by omega) (by omega), show f4 1 = f 1 from funext fun k => fr4 1 k (by omega) (by omega)]
      exact r3
    · rw [h33, ← hf4, zupE rfl rfl]
    · refine zRW_g (g := f 1465) (fun j j0 j1 => hg j j0 (by omega)) ⟨zGC_c (fun o k o0 o1 o2 => ?_) G2, zWL_c w3.2.1 (fun o k o0 o1 => ?_) L2, w3, w4⟩
      · rw [← hf4, zup_na (by omega), fr3 o k (by omega)]
      · rw [← hf4, zup_na (by omega), fr3 o k (by omega)]
    · refine zRL_g (g := f 1465) (fun j hj => ?_) (zRL_c (f := f3) (fun o k o0 o1 => ?_) H3)
      · by_cases c : j < 1710
        · exact hg j (by omega) c
        · rw [hg2 j (by omega), r2.1 j (by omega)]
      · rw [← hf4, zup_na (by omega)]
    · rw [hfld 12 (by decide) (by decide), fr4 0 13 (by omega) (by omega)]
      exact ⟨r6.1, zB3_fr (fun k k0 k1 => hfld k (by omega) (by omega)) r6.2⟩
  refine ⟨f4, h2, ?_, y1, ZR_c (fun o k ho => hm o k (by omega) (by omega)) zHk_refl R⟩
  rw [ze_X_image, zb_X_image_0]
  show zK _ _ _ _ _ _ (zM (true, q) 1898 43 [(18, 213, 0), (18, 23, 0)] (f, t)) = _
  rw [x2, zK_v, zb_X_image_5]
  show zK _ _ _ _ _ _ (zM (true, q) 1898 94 [(12, 16, 0), (12, 2, 0)] (f2, t)) = _
  rw [x3, zK_v, zb_X_image_10, zG2 (by decide) (by decide)]
  show zD (true, q) 1899 zc_X_image (zat zc_X_image 13) [(19, 0, 0)] [] (zup f3 0 14 1, t) = _
  rw [hf4, zb_X_image_13]
theorem o_back {q : Int × (Int → Int)} {N : Int} {f : Int → Int → Int} {t : (Int → Int) × Nat × Nat × Nat × (Int → Int → Bool)} (hR : ZR N f f) : zOu q N f t 311 [(19, 0, 0)] 312 [(20, 1464, 0)] := by
  obtain ⟨r0, r1, r2, r3, r4, r5, r6⟩ := id hR
  have s14 := r4.1.1
  rcases r4.2 with h3 | ⟨h3, r7, r8⟩
  · refine zOu_1 (v := 0) hR ?_ ?_
    · rw [ze_X_back, zb_X_back_0]
      show (if f 0 14 ≠ 0 then _ else _) = _
      rw [s14, if_neg (fun z => z h3), zb_X_back_3, zG2 (by decide) (by decide)]
    · have e : zrow (zup f 1464 0 0) 1465 (f 1465) = zup f 1464 0 0 := by
        rw [show f 1465 = zup f 1464 0 0 1465 from (zup_row (by decide)).symm, zrow_id]
      rw [zrow_id, e]
      exact r_back0 h3
  · have r7' := r7
    obtain ⟨w1, w2, w3, w4⟩ := r7'
    obtain ⟨f2, x2, G2, L2, fr2⟩ := c_world (q := q) (d := 1895) (t := t) (U := 23) (W := 213) (by omega) w3.1 w3.2.1 w3.2.2.1.2.2.2.2 (fun o o0 o1 => (w3.2.2.2 o o0 o1).1.1) w1 w2
    obtain ⟨f3, x3, H3, fr3⟩ := zRL_copy (q := q) (d := 1897) (t := t) (a := 2) (b := 16) (by omega) (zRL_c (f := f) (f2 := f2) (fun o k o0 o1 => fr2 o k (by omega)) r8)
    generalize hf4 : zup f3 0 16 0 = f4
    have fr4 : ∀ o k, (o < 2 ∨ (8 ≤ o ∧ o < 23) ∨ 118 ≤ o) → (o ≠ 0 ∨ k ≠ 16) → f4 o k = f o k := fun o k ho hk => by
      rw [← hf4, zup_nka (by omega), fr3 o k (by omega), fr2 o k (by omega)]
    obtain ⟨h1, y1, hc1, hc2⟩ := r_back1 (q := q) (d := 1899) (t := t) (f := f4) (by rw [fr4 _ _ (by omega) (by omega)]; omega)
    generalize hh2 : zup h1 1464 6 0 = h2 at y1
    have hm : ∀ o k, o ≠ 1465 → (o ≠ 1464 ∨ (k ≠ 0 ∧ k ≠ 6)) → h2 o k = f4 o k := fun o k ho hk => by
      rw [← hh2, zup_nka (by omega), hc2 o k (by omega), zup_nka (by omega)]
    have hg : ∀ j, 0 ≤ j → j < 1710 → h2 1465 j = f 1466 j := fun j j0 j1 => by
      have := hc1 j j0 j1
      rw [Int.zero_add, zup_na (by decide), fr4 _ _ (by omega) (by omega)] at this
      rw [← hh2, zup_na (by decide)]
      exact this
    have hg2 : ∀ j, 1710 ≤ j → h2 1465 j = 0 := fun j hj => by
      rw [← hh2, zup_na (by decide), hc2 1465 j (by omega), zup_na (by decide), fr4 _ _ (by omega) (by omega)]
      exact r2.1 j hj
    have h66 : h2 1464 6 = 0 := by rw [← hh2, zupE rfl rfl]
    have hrow : ∀ o, (o = 1466 ∨ o = 1468 ∨ o = 1469) → h2 o = f o := fun o ho => funext fun k => by
      rw [hm o k (by omega) (by omega), fr4 o k (by omega) (by omega)]
    have hfld : ∀ k, k ≠ 0 → k ≠ 6 → h2 1464 k = f 1464 k := fun k k1 k2 => by
      rw [hm 1464 k (by omega) (by omega), fr4 1464 k (by omega) (by omega)]
    have R : ZR N f4 h2 := by
      refine ⟨r0, ?_, ?_, ?_, zRI_c (fun o k ho => fr4 o k (by omega) (by omega)) (hfld 3 (by decide) (by decide)) (hrow 1466 (by omega)) r4, ⟨by omega, by omega, ?_, ?_, ?_, fun i i0 i1 => by omega⟩, ?_⟩
      · refine zRW_g (g := f 1466) (fun j j0 j1 => hg j j0 (by omega)) ⟨zGC_c (fun o k o0 o1 o2 => ?_) G2, zWL_c w3.2.1 (fun o k o0 o1 => ?_) L2, w3, w4⟩
        · rw [← hf4, zup_na (by omega), fr3 o k (by omega)]
        · rw [← hf4, zup_na (by omega), fr3 o k (by omega)]
      · refine zRL_g (g := f 1466) (fun j hj => ?_) (zRL_c (f := f3) (fun o k o0 o1 => ?_) H3)
        · by_cases c : j < 1710
          · exact hg j (by omega) c
          · rw [hg2 j (by omega), r8.1 j (by omega)]
        · rw [← hf4, zup_na (by omega)]
      · unfold zRT
        rw [hfld 8 (by decide) (by decide), hrow 1469 (by omega), fr4 0 12 (by omega) (by omega), show f4 1 = f 1 from funext fun k => fr4 1 k (by omega) (by omega)]
        exact r3
      · rw [h66, ← hf4, zupE rfl rfl]
      · rw [fr4 0 15 (by omega) (by omega)]
        exact r5.2.2.2.1
      · rw [fr4 0 15 (by omega) (by omega)]
        exact r5.2.2.2.2.1
      · rw [hfld 12 (by decide) (by decide), fr4 0 13 (by omega) (by omega)]
        exact ⟨r6.1, zB3_fr (fun k k0 k1 => hfld k (by omega) (by omega)) r6.2⟩
    refine ⟨1, f4, t, h2, ?_, y1, ZR_c (fun o k ho => hm o k (by omega) (by omega)) zHk_refl R, zTt_refl⟩
    rw [ze_X_back, zb_X_back_0]
    show (if f 0 14 ≠ 0 then _ else _) = _
    rw [s14, if_pos (by omega), zb_X_back_5]
    show zK _ _ _ _ _ _ (zM (true, q) 1898 43 [(18, 23, 0), (18, 213, 0)] (f, t)) = _
    rw [x2, zK_v, zb_X_back_10]
    show zK _ _ _ _ _ _ (zM (true, q) 1898 94 [(12, 2, 0), (12, 16, 0)] (f2, t)) = _
    rw [x3, zK_v, zb_X_back_15, zG2 (by decide) (by decide)]
    show some ((0, 1, 0), (zup f3 0 16 0, t)) = _
    rw [hf4]

