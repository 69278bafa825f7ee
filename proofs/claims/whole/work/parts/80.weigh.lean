/-! ## the class weighs a law -/
/-- a code of the row, from b to e -/
def zSeg (h : Int → Int) : List Int → Int → Int → Prop
  | [], b, e => b = e ∧ 0 ≤ b ∧ b ≤ 400
  | c :: l, b, e => 0 ≤ b ∧ b < 400 ∧ h b = c ∧ zSeg h l (b + 1) e
/-- from depth d to depth e, never above m -/
def zsf (m : Int) : List Int → Int → Int → Prop
  | [], d, e => d = e
  | c :: l, d, e => if -101 < c then d < m ∧ -10 ≤ c ∧ zsf m l (d + 1) e else if c = -101 then 1 ≤ d ∧ zsf m l d e else 2 ≤ d ∧ -106 ≤ c ∧ zsf m l (d - 1) e
def zStk (s : Int → Int) : List Int → Prop
  | [] => True
  | x :: st => s st.length = x ∧ zStk s st
theorem zStk_up {s : Int → Int} {k v : Int} : ∀ (st : List Int), (st.length : Int) ≤ k → zStk s st → zStk (zup1 s k v) st := by
  intro st
  induction st with
  | nil => intro _ _; trivial
  | cons x st ih =>
    intro hk h
    have e : ((x :: st).length : Int) = st.length + 1 := by simp
    rw [e] at hk
    exact ⟨(zup1_ne (by omega)).trans h.1, ih (by omega) h.2⟩
theorem zSeg_rng {h : Int → Int} : ∀ (c : List Int) (b e : Int), zSeg h c b e → 0 ≤ b ∧ b + c.length = e ∧ e ≤ 400 := by
  intro c
  induction c with
  | nil => intro b e hs; obtain ⟨h1, h2, h3⟩ := hs; simp; omega
  | cons x c ih =>
    intro b e hs
    obtain ⟨h1, h2, h3, h4⟩ := hs
    have := ih _ _ h4
    have el : ((x :: c).length : Int) = c.length + 1 := by simp
    omega
theorem c_joined {q : Int × (Int → Int)} {d : Nat} {σ : zS} {c x y : Int} (h : -106 ≤ c) (h2 : c ≤ -102) : zM (true, q) d 110 [(0, c, 0), (0, x, 0), (0, y, 0)] σ = some ((0, zjn c x y, 0), σ) := by
  rw [ze_Law_joined, zb_Law_joined_0]
  rcases (by omega : c = -106 ∨ c = -105 ∨ c = -104 ∨ c = -103 ∨ c = -102) with rfl | rfl | rfl | rfl | rfl
  · show zD (true, q) d zc_Law_joined (zat zc_Law_joined 24) _ [] σ = _
    rw [zb_Law_joined_24]
    rfl
  · show zD (true, q) d zc_Law_joined (zat zc_Law_joined 17) _ [] σ = _
    rw [zb_Law_joined_17]
    rw [show zjn (-105) x y = (if y < x then 1 else 0) from rfl]
    by_cases c : y < x
    · rw [if_neg (by omega), if_pos c, zb_Law_joined_20]
    · rw [if_pos (by omega), if_neg c, zb_Law_joined_22]
  · show zD (true, q) d zc_Law_joined (zat zc_Law_joined 10) _ [] σ = _
    rw [zb_Law_joined_10]
    rw [show zjn (-104) x y = (if x < y then 1 else 0) from rfl]
    by_cases c : x < y
    · rw [if_neg (by omega), if_pos c, zb_Law_joined_13]
    · rw [if_pos (by omega), if_neg c, zb_Law_joined_15]
  · show zD (true, q) d zc_Law_joined (zat zc_Law_joined 6) _ [] σ = _
    rw [zb_Law_joined_6]
    rfl
  · show zD (true, q) d zc_Law_joined (zat zc_Law_joined 2) _ [] σ = _
    rw [zb_Law_joined_2]
    rfl
theorem lc_holds {q : Int × (Int → Int)} {d : Nat} {t : (Int → Int) × Nat × Nat × Nat × (Int → Int → Bool)} {a x r e : Int} {F : Int → Int → Int} (hr : r < a ∨ a + 7 ≤ r) : ∀ (c : List Int) (i : Int) (st : List Int) (f : Int → Int → Int) (v : zV), zSeg (F (a + 5)) c i e → zsf 64 c st.length 1 → zStk (f (a + 6)) st → st.length ≤ 64 → (∀ o k, o ≠ a + 6 → f o k = F o k) → ∃ f2 v2, zD (true, q) (d + 1) zc_Law_holds (zat zc_Law_holds 12) [(12, a, 0), (0, x, 0), (30, r, 10), (0, e, 0), (0, st.length, 0), (0, i, 0), v] [] (f, t) = zD (true, q) (d + 1) zc_Law_holds (zat zc_Law_holds 77) [(12, a, 0), (0, x, 0), (30, r, 10), (0, e, 0), (0, (zev (F r) c st).length, 0), (0, e, 0), v2] [] (f2, t) ∧ zStk (f2 (a + 6)) (zev (F r) c st) ∧ (∀ o k, o ≠ a + 6 → f2 o k = F o k) := by
  intro c
  induction c with
  | nil =>
    intro i st f v hs hd hk hl fr
    obtain ⟨h1, h2, h3⟩ := hs
    exact ⟨f, v, by rw [zb_Law_holds_12, if_pos (by omega), h1]; rfl, hk, fr⟩
  | cons c l ih =>
    intro i st f v hs hd hk hl fr
    have hrng := zSeg_rng _ _ _ hs
    obtain ⟨h1, h2, h3, h4⟩ := hs
    have el : ((c :: l).length : Int) = l.length + 1 := by simp
    have e5 : f (a + 5) i = c := (fr _ _ (by omega)).trans h3
    rw [zb_Law_holds_12, if_neg (by omega), zb_Law_holds_15, s_at h1 h2, zK_i]
    show ∃ f2 v2, zD (true, q) (d + 1) zc_Law_holds (zat zc_Law_holds 19) _ [(0, f (a + 5) i, 0)] (f, t) = zD (true, q) (d + 1) zc_Law_holds (zat zc_Law_holds 77) [(12, a, 0), (0, x, 0), (30, r, 10), (0, e, 0), (0, (zev (F r) l (zst1 (F r) c st)).length, 0), (0, e, 0), v2] [] (f2, t) ∧ zStk (f2 (a + 6)) (zev (F r) l (zst1 (F r) c st)) ∧ _
    rw [e5]
    unfold zst1
    unfold zsf at hd
    by_cases c1 : -101 < c
    · rw [if_pos c1] at hd
      obtain ⟨d1, d2, d3⟩ := hd
      have push : ∀ y : Int, ∃ f2 v2, zD (true, q) (d + 1) zc_Law_holds (zat zc_Law_holds 12) [(12, a, 0), (0, x, 0), (30, r, 10), (0, e, 0), (0, (st.length : Int) + 1, 0), (0, i + 1, 0), (0, c, 0)] [] (zup f (a + 6) st.length y, t) = zD (true, q) (d + 1) zc_Law_holds (zat zc_Law_holds 77) [(12, a, 0), (0, x, 0), (30, r, 10), (0, e, 0), (0, (zev (F r) l (y :: st)).length, 0), (0, e, 0), v2] [] (f2, t) ∧ zStk (f2 (a + 6)) (zev (F r) l (y :: st)) ∧ (∀ o k, o ≠ a + 6 → f2 o k = F o k) := by
        intro y
        have e1 : ((y :: st).length : Int) = st.length + 1 := by simp
        have hk2 : zStk (zup f (a + 6) st.length y (a + 6)) (y :: st) := by
          refine ⟨zupE rfl rfl, ?_⟩
          have := zStk_up (k := st.length) (v := y) st (Int.le_refl _) hk
          rw [zup_zrow, zrow_r]
          exact this
        have := ih (i + 1) (y :: st) (zup f (a + 6) st.length y) (0, c, 0) h4 (by rw [e1]; exact d3) hk2 (by have : (st.length : Int) < 64 := d1; simp; omega) (fun o k ho => (zup_na ho).trans (fr o k ho))
        rw [e1] at this
        exact this
      by_cases c0 : 0 ≤ c
      · rw [if_pos c0, zb_Law_holds_19, if_neg (by omega), zb_Law_holds_23, if_neg (by omega), zb_Law_holds_28, s_put (by omega) (by omega), zK_v, zb_Law_holds_36, zw_id (by omega) (by omega), zw_id (by omega) (by omega)]
        exact push c
      · have er : f r (-1 - c) = F r (-1 - c) := fr _ _ (by omega)
        rw [if_neg c0, if_pos c1, zb_Law_holds_19, if_neg (by omega), zb_Law_holds_23, if_pos (by omega), zb_Law_holds_30, zw_id (by omega) (by omega), s_at (by omega) (by omega), zK_i]
        show ∃ f2 v2, zD (true, q) (d + 1) zc_Law_holds (zat zc_Law_holds 35) _ ((0, f r (-1 - c), 0) :: _) (f, t) = _ ∧ _
        rw [er, zb_Law_holds_35, s_put (by omega) (by omega), zK_v, zb_Law_holds_36, zw_id (by omega) (by omega), zw_id (by omega) (by omega)]
        exact push (F r (-1 - c))
    · rw [if_neg c1] at hd
      rw [if_neg (by omega), if_neg c1, zb_Law_holds_19, if_pos (by omega), zb_Law_holds_38]
      by_cases c2 : c = -101
      · rw [if_pos c2] at hd
        obtain ⟨d1, d2⟩ := hd
        cases st with
        | nil => exact absurd d1 (by decide)
        | cons y st =>
          have e1 : ((y :: st).length : Int) = st.length + 1 := by simp
          have ey : f (a + 6) st.length = y := hk.1
          rw [if_neg (fun z => z c2), if_pos c2, zb_Law_holds_41, e1, zw_id (show -2147483648 ≤ (st.length : Int) + 1 - 1 by omega) (by simp at hl; omega), Int.add_sub_cancel, s_at (by omega) (by simp at hl; omega), zK_i]
          show ∃ f2 v2, zD (true, q) (d + 1) zc_Law_holds (zat zc_Law_holds 53) _ ((0, f (a + 6) st.length, 0) :: _) (f, t) = _ ∧ _
          rw [ey, zb_Law_holds_53, s_put (by omega) (by simp at hl; omega), zK_v, zb_Law_holds_55, zw_id (show -2147483648 ≤ i + 1 by omega) (by omega)]
          have hk2 : zStk (zup f (a + 6) st.length (zw (1 - y)) (a + 6)) (zw (1 - y) :: st) := by
            refine ⟨zupE rfl rfl, ?_⟩
            have := zStk_up (k := st.length) (v := zw (1 - y)) st (Int.le_refl _) hk.2
            rw [zup_zrow, zrow_r]
            exact this
          have e2 : ((zw (1 - y) :: st).length : Int) = st.length + 1 := by simp
          have := ih (i + 1) (zw (1 - y) :: st) (zup f (a + 6) st.length (zw (1 - y))) (0, c, 0) h4 (by rw [e2, ← e1]; exact d2) hk2 (by simp at hl ⊢; omega) (fun o k ho => (zup_na ho).trans (fr o k ho))
          rw [e2] at this
          exact this
      · rw [if_neg c2] at hd
        obtain ⟨d1, d2, d3⟩ := hd
        cases st with
        | nil => exact absurd d1 (by decide)
        | cons y st =>
          cases st with
          | nil =>
            have d1 : (2 : Int) ≤ 1 := d1
            omega
          | cons z st =>
            have e1 : ((y :: z :: st).length : Int) = st.length + 2 := by simp; omega
            have ey : f (a + 6) ((st.length : Int) + 1) = y := by
              have := hk.1
              have e9 : ((z :: st).length : Int) = st.length + 1 := by simp
              rw [e9] at this
              exact this
            have ez : f (a + 6) st.length = z := hk.2.1
            have hl9 : (st.length : Int) + 2 ≤ 64 := by simp at hl; omega
            rw [if_pos c2, if_neg c2, zb_Law_holds_56, e1, zw_id (show -2147483648 ≤ (st.length : Int) + 2 + -1 by omega) (by omega), zw_id (show -2147483648 ≤ (st.length : Int) + 2 + -1 - 1 by omega) (by omega), show (st.length : Int) + 2 + -1 = st.length + 1 by omega, Int.add_sub_cancel, s_at (by omega) (by omega), zK_i]
            show ∃ f2 v2, zD (true, q) (d + 1) zc_Law_holds (zat zc_Law_holds 69) _ ((0, f (a + 6) st.length, 0) :: _) (f, t) = _ ∧ _
            rw [ez, zb_Law_holds_69, s_at (by omega) (by omega), zK_i]
            show ∃ f2 v2, zD (true, q) (d + 1) zc_Law_holds (zat zc_Law_holds 73) _ ((0, f (a + 6) ((st.length : Int) + 1), 0) :: _) (f, t) = _ ∧ _
            rw [ey, zb_Law_holds_73, c_joined d2 (by omega), zK_i, zb_Law_holds_74, s_put (by omega) (by omega), zK_v, zb_Law_holds_75, zw_id (show -2147483648 ≤ i + 1 by omega) (by omega)]
            have hk2 : zStk (zup f (a + 6) st.length (zjn c z y) (a + 6)) (zjn c z y :: st) := by
              refine ⟨zupE rfl rfl, ?_⟩
              have := zStk_up (k := st.length) (v := zjn c z y) st (Int.le_refl _) hk.2.2
              rw [zup_zrow, zrow_r]
              exact this
            have e2 : ((zjn c z y :: st).length : Int) = st.length + 1 := by simp
            have := ih (i + 1) (zjn c z y :: st) (zup f (a + 6) st.length (zjn c z y)) (0, c, 0) h4 (by rw [e2, show (st.length : Int) + 1 = ((y :: z :: st).length : Int) - 1 by rw [e1]; omega]; exact d3) hk2 (by simp at hl ⊢; omega) (fun o k ho => (zup_na ho).trans (fr o k ho))
            rw [e2] at this
            exact this
/-- a code that may be weighed -/
def zCok (c : List Int) : Prop := c = [] ∨ (zsf 64 c 0 1 ∧ ∀ φ, ∃ v, zev φ c [] = [v])
theorem c_holds {q : Int × (Int → Int)} {d : Nat} {σ : zS} {a x r : Int} {c : List Int} (hr : r < a ∨ a + 7 ≤ r) (x0 : 0 ≤ x) (x1 : x < 12) (hs : zSeg (σ.1 (a + 5)) c (σ.1 (a + 3) x) (σ.1 (a + 4) x)) (hc : zCok c) : ∃ f2, zM (true, q) (d + 1) 111 [(12, a, 0), (0, x, 0), (30, r, 10)] σ = some ((0, if zHo (σ.1 r) c = true then 1 else 0, 0), (f2, σ.2)) ∧ ∀ o k, o ≠ a + 6 → f2 o k = σ.1 o k := by
  have run : zM (true, q) (d + 1) 111 [(12, a, 0), (0, x, 0), (30, r, 10)] σ = zD (true, q) (d + 1) zc_Law_holds (zat zc_Law_holds 12) [(12, a, 0), (0, x, 0), (30, r, 10), (0, σ.1 (a + 4) x, 0), (0, 0, 0), (0, σ.1 (a + 3) x, 0), (2, 0, 0)] [] σ := by
    rw [ze_Law_holds, zb_Law_holds_0, s_at x0 x1, zK_i, zb_Law_holds_4, s_at x0 x1, zK_i, zb_Law_holds_11]
  rw [run]
  rcases hc with rfl | ⟨h1, h2⟩
  · obtain ⟨e1, _, _⟩ := hs
    refine ⟨σ.1, ?_, fun _ _ _ => rfl⟩
    rw [zb_Law_holds_12, if_pos (by omega), zb_Law_holds_77, if_pos rfl, zb_Law_holds_84, zG2 (by decide) (by decide)]
    rfl
  · obtain ⟨v, hv⟩ := h2 (σ.1 r)
    obtain ⟨f2, v2, r2, k2, fr2⟩ := lc_holds (q := q) (d := d) (t := σ.2) (a := a) (x := x) (r := r) (e := σ.1 (a + 4) x) (F := σ.1) hr c (σ.1 (a + 3) x) [] σ.1 (2, 0, 0) hs h1 trivial (by decide) (fun _ _ _ => rfl)
    rw [hv] at r2 k2
    have r2 : zD (true, q) (d + 1) zc_Law_holds (zat zc_Law_holds 12) [(12, a, 0), (0, x, 0), (30, r, 10), (0, σ.1 (a + 4) x, 0), (0, 0, 0), (0, σ.1 (a + 3) x, 0), (2, 0, 0)] [] σ = zD (true, q) (d + 1) zc_Law_holds (zat zc_Law_holds 77) [(12, a, 0), (0, x, 0), (30, r, 10), (0, σ.1 (a + 4) x, 0), (0, 1, 0), (0, σ.1 (a + 4) x, 0), v2] [] (f2, σ.2) := r2
    have ev : f2 (a + 6) 0 = v := k2.1
    have hne : c.isEmpty ≠ true := fun z => by
      rw [List.isEmpty_iff.mp z] at hv
      exact absurd hv (by simp [zev])
    refine ⟨f2, ?_, fr2⟩
    rw [r2, zb_Law_holds_77, if_neg (by decide), zb_Law_holds_79, s_at (by decide) (by decide), zK_i]
    show zD (true, q) (d + 1) zc_Law_holds (zat zc_Law_holds 83) _ [(0, f2 (a + 6) 0, 0)] (f2, σ.2) = _
    rw [ev, zb_Law_holds_83]
    unfold zHo
    rw [if_neg hne, hv]
    show _ = some ((0, if (if v = 0 then false else true) = true then 1 else 0, 0), (f2, σ.2))
    by_cases c0 : v = 0
    · rw [if_pos c0, if_pos c0, zb_Law_holds_86, zG2 (by decide) (by decide), if_neg (by decide)]
    · rw [if_neg c0, if_neg c0, zb_Law_holds_84, zG2 (by decide) (by decide), if_pos rfl]
/-- the law's object, line by line -/
def zLOs (h : Int → Int → Int) (a : Int) : List (Int × Int × List Int) → Int → Prop
  | [], _ => True
  | l :: ls, i => h (a + 1) i = l.1 ∧ h (a + 2) i = l.2.1 ∧ zSeg (h (a + 5)) l.2.2 (h (a + 3) i) (h (a + 4) i) ∧ zCok l.2.2 ∧ zLOs h a ls (i + 1)
theorem lc_sumOf {q : Int × (Int → Int)} {d : Nat} {t : (Int → Int) × Nat × Nat × Nat × (Int → Int → Bool)} {a x r n : Int} {F : Int → Int → Int} (hr : r < a ∨ a + 7 ≤ r) (h6 : F a 6 = n) (hn : n ≤ 12) : ∀ (ls : List (Int × Int × List Int)) (i s : Int) (f : Int → Int → Int), 0 ≤ i → i + ls.length = n → zLOs F a ls i → (∀ l ∈ ls, zLv l) → 0 ≤ s → s ≤ 99 * i → (∀ o k, o ≠ a + 6 → f o k = F o k) → ∃ f2, zD (true, q) (d + 2) zc_Law_sumOf (zat zc_Law_sumOf 4) [(12, a, 0), (0, x, 0), (30, r, 10), (0, s, 0), (0, i, 0)] [] (f, t) = some ((0, s + zSS x (F r) ls, 0), (f2, t)) ∧ (∀ o k, o ≠ a + 6 → f2 o k = F o k) := by
  intro ls
  induction ls with
  | nil =>
    intro i s f i0 hi _ _ _ _ fr
    have e6 : f a 6 = n := (fr _ _ (by omega)).trans h6
    have hi : i + 0 = n := hi
    refine ⟨f, ?_, fr⟩
    rw [zb_Law_sumOf_4, if_pos (show f a 6 ≤ i by omega), zb_Law_sumOf_28]
    show some ((0, s, 0), (f, t)) = some ((0, s + 0, 0), (f, t))
    rw [Int.add_zero]
  | cons l ls ih =>
    intro i s f i0 hi hL hv s0 s1 fr
    have el : ((l :: ls).length : Int) = ls.length + 1 := by simp
    rw [el] at hi
    obtain ⟨L1, L2, L3, L4, L5⟩ := hL
    have e6 : f a 6 = n := (fr _ _ (by omega)).trans h6
    have e1 : f (a + 1) i = l.1 := (fr _ _ (by omega)).trans L1
    have hl := hv l (by simp)
    have hv2 := fun m hm => hv m (List.mem_cons_of_mem l hm)
    rw [zb_Law_sumOf_4, if_neg (show ¬f a 6 ≤ i by omega), zb_Law_sumOf_8, s_at i0 (by omega), zK_i]
    show ∃ f2, zD (true, q) (d + 1 + 1) zc_Law_sumOf (zat zc_Law_sumOf 12) _ [(0, f (a + 1) i, 0)] (f, t) = some ((0, s + ((if l.1 = x ∧ zHo (F r) l.2.2 = true then l.2.1 else 0) + zSS x (F r) ls), 0), (f2, t)) ∧ _
    rw [e1, zb_Law_sumOf_12]
    by_cases c1 : l.1 = x
    · rw [if_neg (fun z => z c1), zb_Law_sumOf_14]
      have e3 : f (a + 3) = F (a + 3) := funext fun k => fr _ k (by omega)
      have e4 : f (a + 4) = F (a + 4) := funext fun k => fr _ k (by omega)
      have e5 : f (a + 5) = F (a + 5) := funext fun k => fr _ k (by omega)
      have er : f r = F r := funext fun k => fr _ k (by omega)
      obtain ⟨f2, r2, fr2⟩ := c_holds (q := q) (d := d) (σ := (f, t)) (a := a) (x := i) (r := r) (c := l.2.2) hr i0 (by omega) (by show zSeg (f (a + 5)) l.2.2 (f (a + 3) i) (f (a + 4) i); rw [e3, e4, e5]; exact L3) L4
      have r2 : zM (true, q) (d + 1) 111 [(12, a, 0), (0, i, 0), (30, r, 10)] (f, t) = some ((0, if zHo (F r) l.2.2 = true then 1 else 0, 0), (f2, t)) := by
        rw [← er]
        exact r2
      have fr2' : ∀ o k, o ≠ a + 6 → f2 o k = F o k := fun o k ho => (fr2 o k ho).trans (fr o k ho)
      rw [r2, zK_i, zb_Law_sumOf_18]
      by_cases c2 : zHo (F r) l.2.2 = true
      · have e2 : f2 (a + 2) i = l.2.1 := (fr2' _ _ (by omega)).trans L2
        rw [if_pos c2, if_neg (by decide), if_pos ⟨c1, c2⟩, zb_Law_sumOf_19, s_at i0 (by omega), zK_i]
        show ∃ f3, zD (true, q) (d + 1 + 1) zc_Law_sumOf (zat zc_Law_sumOf 24) _ [(0, f2 (a + 2) i, 0), (0, s, 0)] (f2, t) = _ ∧ _
        rw [e2, zb_Law_sumOf_24, zw_id (by have := hl.2.1; omega) (by have := hl.2.2; omega), zw_id (show -2147483648 ≤ i + 1 by omega) (by omega), ← Int.add_assoc]
        exact ih (i + 1) (s + l.2.1) f2 (by omega) (by omega) L5 hv2 (by have := hl.2.1; omega) (by have := hl.2.2; omega) fr2'
      · rw [if_neg c2, if_pos rfl, if_neg (fun z => c2 z.2), zb_Law_sumOf_26, zw_id (by omega) (by omega), Int.zero_add]
        exact ih (i + 1) s f2 (by omega) (by omega) L5 hv2 s0 (by omega) fr2'
    · rw [if_pos c1, if_neg (fun z => c1 z.1), zb_Law_sumOf_26, zw_id (by omega) (by omega), Int.zero_add]
      exact ih (i + 1) s f (by omega) (by omega) L5 hv2 s0 (by omega) fr
theorem zAskC_of {q : Int × (Int → Int)} {a : Int} {h : Int → Int → Int} {ls : List (Int × Int × List Int)} (h6 : h a 6 = ls.length) (h12 : ls.length ≤ 12) (hL : zLOs h a ls 0) (hv : ∀ l ∈ ls, zLv l) : zAskC q (zSv ls) a h := by
  intro d σ r x hh hr x0 x2
  have hF : ∀ o, a ≤ o → o < a + 6 → σ.1 o = h o := fun o a1 a2 => funext fun k => hh o k a1 a2
  have hL2 : zLOs σ.1 a ls 0 := by
    have : ∀ (ls : List (Int × Int × List Int)) (i : Int), zLOs h a ls i → zLOs σ.1 a ls i := by
      intro ls
      induction ls with
      | nil => intro i _; trivial
      | cons l ls ih =>
        intro i hi
        obtain ⟨L1, L2, L3, L4, L5⟩ := hi
        refine ⟨by rw [hF _ (by omega) (by omega)]; exact L1, by rw [hF _ (by omega) (by omega)]; exact L2, by rw [hF (a + 5) (by omega) (by omega), hF (a + 3) (by omega) (by omega), hF (a + 4) (by omega) (by omega)]; exact L3, L4, ih _ L5⟩
    exact this ls 0 hL
  obtain ⟨f2, r2, fr2⟩ := lc_sumOf (q := q) (d := d + 1) (t := σ.2) (a := a) (x := x) (r := r) (n := ls.length) (F := σ.1) hr (by rw [hF _ (Int.le_refl a) (by omega)]; exact h6) (by omega) ls 0 0 σ.1 (by decide) (by omega) hL2 hv (by decide) (by decide) (fun _ _ _ => rfl)
  refine ⟨f2, ?_, fr2⟩
  rw [ze_Law_sumOf, zb_Law_sumOf_0]
  rw [Int.zero_add] at r2
  exact r2
theorem zHo_congr {φ ψ : Int → Int} {c : List Int} (h : ∀ i, 0 ≤ i → i < 10 → φ i = ψ i) (hc : zCok c) : zHo φ c = zHo ψ c := by
  rcases hc with rfl | ⟨h1, _⟩
  · rfl
  · have : ∀ (c : List Int) (d : Int) (st : List Int), zsf 64 c d 1 → zev φ c st = zev ψ c st := by
      intro c
      induction c with
      | nil => intro d st _; rfl
      | cons x c ih =>
        intro d st hs
        show zev φ c (zst1 φ x st) = zev ψ c (zst1 ψ x st)
        unfold zsf at hs
        by_cases c1 : -101 < x
        · rw [if_pos c1] at hs
          obtain ⟨d1, d2, d3⟩ := hs
          have e : zst1 φ x st = zst1 ψ x st := by
            unfold zst1
            by_cases c0 : 0 ≤ x
            · rw [if_pos c0, if_pos c0]
            · rw [if_neg c0, if_neg c0, if_pos c1, if_pos c1, h (-1 - x) (by omega) (by omega)]
          rw [e]
          exact ih _ _ d3
        · rw [if_neg c1] at hs
          have e : zst1 φ x st = zst1 ψ x st := by
            unfold zst1
            rw [if_neg (show ¬0 ≤ x by omega), if_neg c1, if_neg (show ¬0 ≤ x by omega), if_neg c1]
          rw [e]
          by_cases c2 : x = -101
          · rw [if_pos c2] at hs
            exact ih _ _ hs.2
          · rw [if_neg c2] at hs
            exact ih _ _ hs.2.2
    unfold zHo
    rw [this c 0 [] h1]
theorem zSC_of {ls : List (Int × Int × List Int)} (h12 : ls.length ≤ 12) (hv : ∀ l ∈ ls, zLv l) (hc : ∀ l ∈ ls, zCok l.2.2) : zSC (zSv ls) := by
  refine ⟨fun x φ ψ h => ?_, fun x φ => ?_⟩
  · show zSS x φ ls = zSS x ψ ls
    clear h12 hv
    induction ls with
    | nil => rfl
    | cons l ls ih =>
      show (if l.1 = x ∧ zHo φ l.2.2 = true then l.2.1 else 0) + zSS x φ ls = (if l.1 = x ∧ zHo ψ l.2.2 = true then l.2.1 else 0) + zSS x ψ ls
      rw [zHo_congr h (hc l (by simp)), ih (fun m hm => hc m (List.mem_cons_of_mem l hm))]
  · have := zSS_rng (x := x) (φ := φ) ls hv
    show 0 ≤ zSS x φ ls ∧ zSS x φ ls ≤ 1188
    omega
