/-! ## the class copies a world -/
/-- so many fields, one behind another -/
def zcF (f : Int → Int → Int) (a b : Int) : Nat → Int → (Int → Int → Int)
  | 0, _ => f
  | n + 1, k => zcF (zup f a k (f b k)) a b n (k + 1)
theorem zcF_at {a b : Int} (h : a ≠ b) : ∀ (n : Nat) (k : Int) (f : Int → Int → Int) (o j : Int), zcF f a b n k o j = if o = a ∧ k ≤ j ∧ j < k + n then f b j else f o j := by
  intro n
  induction n with
  | zero =>
    intro k f o j
    rw [if_neg (by omega)]
    rfl
  | succ n ih =>
    intro k f o j
    show zcF (zup f a k (f b k)) a b n (k + 1) o j = _
    rw [ih]
    by_cases c : o = a ∧ k + 1 ≤ j ∧ j < k + 1 + n
    · rw [if_pos c, if_pos (by omega), zup_na (by omega)]
    · rw [if_neg c]
      by_cases c2 : o = a ∧ j = k
      · rw [if_pos (by omega), zupE c2.1 c2.2, c2.2]
      · rw [if_neg (by omega), zup_nka (by omega)]
theorem zcF_in {a b : Int} {n : Nat} {k j : Int} {f : Int → Int → Int} (h : a ≠ b) (h1 : k ≤ j) (h2 : j < k + n) : zcF f a b n k a j = f b j := by
  rw [zcF_at h, if_pos ⟨rfl, h1, h2⟩]
theorem zcF_out {a b : Int} {n : Nat} {k o j : Int} {f : Int → Int → Int} (h : a ≠ b) (h1 : o ≠ a ∨ j < k ∨ k + n ≤ j) : zcF f a b n k o j = f o j := by
  rw [zcF_at h, if_neg (by omega)]
theorem s_copyRow0 {q : Int × (Int → Int)} {d : Nat} {a b y z n : Int} {σ : zS} (h : n ≤ 0 ∨ y < n) : zM (true, q) d 38 [(30, a, y), (30, b, z), (0, n, 0)] σ = some ((9, 0, 0), σ) := by
  rw [ze_X_copyRow, zb_X_copyRow_0]
  by_cases c : n ≤ 0
  · rw [if_pos c, zb_X_copyRow_16]
  · rw [if_neg c, zb_X_copyRow_2, if_pos (by omega), zb_X_copyRow_16]
theorem s_copyRowN {q : Int × (Int → Int)} {d : Nat} {a b z n : Int} {σ : zS} : zM (true, q) d 38 [(30, a, 0), (30, b, z), (0, n, 0)] σ = some ((9, 0, 0), σ) := s_copyRow0 (by omega)
theorem c_uniQ {q : Int × (Int → Int)} {d : Nat} {t : (Int → Int) × Nat × Nat × Nat × (Int → Int → Bool)} {f : Int → Int → Int} {a b : Int} (hab : b + 3 ≤ a ∨ a + 3 ≤ b) (m0 : 0 ≤ f b 4) (m9 : f b 4 ≤ 96) : ∃ f2, zM (true, q) (d + 1) 39 [(16, a, 96), (16, b, 96)] (f, t) = some ((9, 0, 0), (f2, t)) ∧ f2 a 4 = f b 4 ∧ (∀ k c, 0 ≤ k → k < f b 4 → 1 ≤ c → c < 3 → f2 (a + c) k = f (b + c) k) ∧ (∀ o k, (o < a ∨ a + 3 ≤ o) → f2 o k = f o k) := by
  have e4 : zup f a 4 (f b 4) a 4 = f b 4 := zupE rfl rfl
  refine ⟨zcpy (zcpy (zup f a 4 (f b 4)) (b + 1) 0 (a + 1) 0 (f b 4)) (b + 2) 0 (a + 2) 0 (f b 4), ?_, ?_, fun k c k0 k1 c0 c1 => ?_, fun o k ho => ?_⟩
  · rw [ze_Uni_copyFrom, zb_Uni_copyFrom_0]
    show zK _ _ _ _ _ _ (zM (true, q) d 38 [(30, b + 1, 96), (30, a + 1, 96), (0, zup f a 4 (f b 4) a 4, 0)] (zup f a 4 (f b 4), t)) = _
    rw [e4, s_copyRow m9 m9, zK_v, zb_Uni_copyFrom_11]
    show zK _ _ _ _ _ _ (zM (true, q) d 38 [(30, b + 2, 96), (30, a + 2, 96), (0, zcpy (zup f a 4 (f b 4)) (b + 1) 0 (a + 1) 0 (f b 4) a 4, 0)] (zcpy (zup f a 4 (f b 4)) (b + 1) 0 (a + 1) 0 (f b 4), t)) = _
    rw [zcpy_na (by omega), e4, s_copyRow m9 m9, zK_v, zb_Uni_copyFrom_18, zNL96, s_copyRowN, zK_v, zb_Uni_copyFrom_25, zNL96, s_copyRowN, zK_v, zb_Uni_copyFrom_32]
  · rw [zcpy_na (by omega), zcpy_na (by omega)]
    exact e4
  · rcases (by omega : c = 1 ∨ c = 2) with rfl | rfl
    · rw [zcpy_na (by omega), zcpy_in rfl k0 (by omega), zup_na (by omega), show (0 : Int) + (k - 0) = k by omega]
    · rw [zcpy_in rfl k0 (by omega), zcpy_na (by omega), zup_na (by omega), show (0 : Int) + (k - 0) = k by omega]
  · rw [zcpy_na (by omega), zcpy_na (by omega), zup_na (by omega)]
theorem c_uniB {q : Int × (Int → Int)} {d : Nat} {t : (Int → Int) × Nat × Nat × Nat × (Int → Int → Bool)} {f : Int → Int → Int} {a b : Int} (hab : b + 5 ≤ a ∨ a + 5 ≤ b) (m0 : 0 ≤ f b 4) (m9 : f b 4 ≤ 8) : ∃ f2, zM (true, q) (d + 1) 39 [(16, a, 8), (16, b, 8)] (f, t) = some ((9, 0, 0), (f2, t)) ∧ f2 a 4 = f b 4 ∧ (∀ k c, 0 ≤ k → k < f b 4 → 1 ≤ c → c < 5 → f2 (a + c) k = f (b + c) k) ∧ (∀ o k, (o < a ∨ a + 5 ≤ o) → f2 o k = f o k) := by
  have e4 : zup f a 4 (f b 4) a 4 = f b 4 := zupE rfl rfl
  refine ⟨zcpy (zcpy (zcpy (zcpy (zup f a 4 (f b 4)) (b + 1) 0 (a + 1) 0 (f b 4)) (b + 2) 0 (a + 2) 0 (f b 4)) (b + 3) 0 (a + 3) 0 (f b 4)) (b + 4) 0 (a + 4) 0 (f b 4), ?_, ?_, fun k c k0 k1 c0 c1 => ?_, fun o k ho => ?_⟩
  · rw [ze_Uni_copyFrom, zb_Uni_copyFrom_0]
    show zK _ _ _ _ _ _ (zM (true, q) d 38 [(30, b + 1, 8), (30, a + 1, 8), (0, zup f a 4 (f b 4) a 4, 0)] (zup f a 4 (f b 4), t)) = _
    rw [e4, s_copyRow m9 m9, zK_v, zb_Uni_copyFrom_11]
    show zK _ _ _ _ _ _ (zM (true, q) d 38 [(30, b + 2, 8), (30, a + 2, 8), (0, zcpy (zup f a 4 (f b 4)) (b + 1) 0 (a + 1) 0 (f b 4) a 4, 0)] (zcpy (zup f a 4 (f b 4)) (b + 1) 0 (a + 1) 0 (f b 4), t)) = _
    rw [zcpy_na (by omega), e4, s_copyRow m9 m9, zK_v, zb_Uni_copyFrom_18, zNL8]
    show zK _ _ _ _ _ _ (zM (true, q) d 38 [(30, b + 3, 8), (30, a + 3, 8), (0, zcpy (zcpy (zup f a 4 (f b 4)) (b + 1) 0 (a + 1) 0 (f b 4)) (b + 2) 0 (a + 2) 0 (f b 4) a 4, 0)] (zcpy (zcpy (zup f a 4 (f b 4)) (b + 1) 0 (a + 1) 0 (f b 4)) (b + 2) 0 (a + 2) 0 (f b 4), t)) = _
    rw [zcpy_na (by omega), zcpy_na (by omega), e4, s_copyRow m9 m9, zK_v, zb_Uni_copyFrom_25, zNL8]
    show zK _ _ _ _ _ _ (zM (true, q) d 38 [(30, b + 4, 8), (30, a + 4, 8), (0, zcpy (zcpy (zcpy (zup f a 4 (f b 4)) (b + 1) 0 (a + 1) 0 (f b 4)) (b + 2) 0 (a + 2) 0 (f b 4)) (b + 3) 0 (a + 3) 0 (f b 4) a 4, 0)] (zcpy (zcpy (zcpy (zup f a 4 (f b 4)) (b + 1) 0 (a + 1) 0 (f b 4)) (b + 2) 0 (a + 2) 0 (f b 4)) (b + 3) 0 (a + 3) 0 (f b 4), t)) = _
    rw [zcpy_na (by omega), zcpy_na (by omega), zcpy_na (by omega), e4, s_copyRow m9 m9, zK_v, zb_Uni_copyFrom_32]
  · rw [zcpy_na (by omega), zcpy_na (by omega), zcpy_na (by omega), zcpy_na (by omega)]
    exact e4
  · rcases (by omega : c = 1 ∨ c = 2 ∨ c = 3 ∨ c = 4) with rfl | rfl | rfl | rfl
    · rw [zcpy_na (by omega), zcpy_na (by omega), zcpy_na (by omega), zcpy_in rfl k0 (by omega), zup_na (by omega), show (0 : Int) + (k - 0) = k by omega]
    · rw [zcpy_na (by omega), zcpy_na (by omega), zcpy_in rfl k0 (by omega), zcpy_na (by omega), zup_na (by omega), show (0 : Int) + (k - 0) = k by omega]
    · rw [zcpy_na (by omega), zcpy_in rfl k0 (by omega), zcpy_na (by omega), zcpy_na (by omega), zup_na (by omega), show (0 : Int) + (k - 0) = k by omega]
    · rw [zcpy_in rfl k0 (by omega), zcpy_na (by omega), zcpy_na (by omega), zcpy_na (by omega), zup_na (by omega), show (0 : Int) + (k - 0) = k by omega]
  · rw [zcpy_na (by omega), zcpy_na (by omega), zcpy_na (by omega), zcpy_na (by omega), zup_na (by omega)]
theorem c_airCp {q : Int × (Int → Int)} {d : Nat} {t : (Int → Int) × Nat × Nat × Nat × (Int → Int → Bool)} {f : Int → Int → Int} {a b : Int} (hab : b + 6 ≤ a ∨ a + 6 ≤ b) : ∃ f2, zM (true, q) (d + 1) 40 [(10, a, 0), (10, b, 0)] (f, t) = some ((9, 0, 0), (f2, t)) ∧ (∀ k c, 0 ≤ k → k < 4 → 1 ≤ c → c < 6 → f2 (a + c) k = f (b + c) k) ∧ (∀ o k, (o < a ∨ a + 6 ≤ o) → f2 o k = f o k) := by
  refine ⟨zcpy (zcpy (zcpy (zcpy (zcpy f (b + 1) 0 (a + 1) 0 4) (b + 2) 0 (a + 2) 0 4) (b + 3) 0 (a + 3) 0 4) (b + 4) 0 (a + 4) 0 4) (b + 5) 0 (a + 5) 0 4, ?_, fun k c k0 k1 c0 c1 => ?_, fun o k ho => ?_⟩
  · rw [ze_Air_copyFrom, zb_Air_copyFrom_0, s_copyRow (by decide) (by decide), zK_v, zb_Air_copyFrom_6, s_copyRow (by decide) (by decide), zK_v, zb_Air_copyFrom_12, s_copyRow (by decide) (by decide), zK_v, zb_Air_copyFrom_18, s_copyRow (by decide) (by decide), zK_v, zb_Air_copyFrom_24, s_copyRow (by decide) (by decide), zK_v, zb_Air_copyFrom_30]
  · rcases (by omega : c = 1 ∨ c = 2 ∨ c = 3 ∨ c = 4 ∨ c = 5) with rfl | rfl | rfl | rfl | rfl
    · rw [zcpy_na (by omega), zcpy_na (by omega), zcpy_na (by omega), zcpy_na (by omega), zcpy_in rfl k0 (by omega), show (0 : Int) + (k - 0) = k by omega]
    · rw [zcpy_na (by omega), zcpy_na (by omega), zcpy_na (by omega), zcpy_in rfl k0 (by omega), zcpy_na (by omega), show (0 : Int) + (k - 0) = k by omega]
    · rw [zcpy_na (by omega), zcpy_na (by omega), zcpy_in rfl k0 (by omega), zcpy_na (by omega), zcpy_na (by omega), show (0 : Int) + (k - 0) = k by omega]
    · rw [zcpy_na (by omega), zcpy_in rfl k0 (by omega), zcpy_na (by omega), zcpy_na (by omega), zcpy_na (by omega), show (0 : Int) + (k - 0) = k by omega]
    · rw [zcpy_in rfl k0 (by omega), zcpy_na (by omega), zcpy_na (by omega), zcpy_na (by omega), zcpy_na (by omega), show (0 : Int) + (k - 0) = k by omega]
  · rw [zcpy_na (by omega), zcpy_na (by omega), zcpy_na (by omega), zcpy_na (by omega), zcpy_na (by omega)]
theorem lc_cp21 {q : Int × (Int → Int)} {d : Nat} {t : (Int → Int) × Nat × Nat × Nat × (Int → Int → Bool)} {f : Int → Int → Int} {a b : Int} : zD (true, q) d zc_Lin_copyFrom (zat zc_Lin_copyFrom 21) [(13, a, 0), (13, b, 0)] [] (f, t) = zG [zcF f a b 7 4 b 11, 2] (zD (true, q) d zc_Lin_copyFrom (zat zc_Lin_copyFrom 53) [(13, a, 0), (13, b, 0)] [] (zup (zcF f a b 7 4) a 11 (zcF f a b 7 4 b 11), t)) := zb_Lin_copyFrom_21 q d a b (f, t)
theorem lc_cp53 {q : Int × (Int → Int)} {d : Nat} {t : (Int → Int) × Nat × Nat × Nat × (Int → Int → Bool)} {f : Int → Int → Int} {a b : Int} : zD (true, q) d zc_Lin_copyFrom (zat zc_Lin_copyFrom 53) [(13, a, 0), (13, b, 0)] [] (f, t) = some ((9, 0, 0), (zcF f a b 7 12, t)) := zb_Lin_copyFrom_53 q d a b (f, t)
theorem lc_cp24 {q : Int × (Int → Int)} {d : Nat} {t : (Int → Int) × Nat × Nat × Nat × (Int → Int → Bool)} {f : Int → Int → Int} {a b x : Int} : zD (true, q) d zc_Wor_copyFrom (zat zc_Wor_copyFrom 24) [(18, a, 0), (18, b, 0), (0, x, 0)] [] (f, t) = some ((9, 0, 0), (zcF f a b 6 5, t)) := zb_Wor_copyFrom_24 q d a b x (f, t)

theorem c_lineCp {q : Int × (Int → Int)} {d : Nat} {t : (Int → Int) × Nat × Nat × Nat × (Int → Int → Bool)} {f : Int → Int → Int} {a b n : Int} {g : Int → Int} {B : Int} (hab : b + 18 ≤ a ∨ a + 18 ≤ b) (hr : rLR g B) (hn : n ≤ 4) (h : zLC n f b g B) : ∃ f2, zM (true, q) (d + 2) 41 [(13, a, 0), (13, b, 0)] (f, t) = some ((9, 0, 0), (f2, t)) ∧ zLC n f2 a g B ∧ zFb a f f2 := by
  obtain ⟨h1, h2, h3, h4, h5, h6, h7⟩ := h
  have hr0 := hr
  obtain ⟨r_0, r_1, r_2, r_3, r_4, r_5, r_6, r_7, r_8, r_9, _⟩ := hr
  obtain ⟨f1, x1, y1, z1, w1⟩ := c_uniQ (q := q) (d := d) (t := t) (f := f) (a := a + 1) (b := b + 1) (by omega) (by omega) (by omega)
  obtain ⟨f2, x2, y2, z2, w2⟩ := c_uniB (q := q) (d := d) (t := t) (f := f1) (a := a + 6) (b := b + 6) (by omega) (by rw [w1 _ _ (by omega)]; omega) (by rw [w1 _ _ (by omega)]; omega)
  obtain ⟨f3, x3, z3, w3⟩ := c_airCp (q := q) (d := d) (t := t) (f := f2) (a := a + 11) (b := b + 11) (by omega)
  have ab : a ≠ b := by omega
  generalize hf4 : zcpy f3 (b + 17) 0 (a + 17) 0 4 = f4
  have w4 : ∀ o k, o ≠ a + 17 → f4 o k = f3 o k := fun o k ho => by rw [← hf4, zcpy_na ho]
  have z4 : ∀ k, 0 ≤ k → k < 4 → f4 (a + 17) k = f3 (b + 17) k := fun k k0 k1 => by rw [← hf4, zcpy_in rfl k0 (by omega), show (0 : Int) + (k - 0) = k by omega]
  have fb : ∀ k, f4 b k = f b k := fun k => by rw [w4 _ _ (by omega), w3 _ _ (by omega), w2 _ _ (by omega), w1 _ _ (by omega)]
  have e11 : zcF f4 a b 7 4 b 11 = g (B + 9) := by
    rw [zcF_out ab (by omega), fb]
    exact h1 11 (by decide) (by decide)
  refine ⟨zcF (zup (zcF f4 a b 7 4) a 11 (g (B + 9))) a b 7 12, ?_, ⟨fun c c0 c1 => ?_, ?_, ?_, fun k c k0 k1 c0 c1 => ?_, fun k c k0 k1 c0 c1 => ?_, fun k k0 k1 => ?_, fun k k0 k1 => ?_⟩, fun o k ho => ?_⟩
  · rw [ze_Lin_copyFrom, zb_Lin_copyFrom_0, x1, zK_v, zb_Lin_copyFrom_5, x2, zK_v, zb_Lin_copyFrom_10, x3, zK_v, zb_Lin_copyFrom_15, s_copyRow (by decide) (by decide), zK_v]
    show zD (true, q) (d + 2) zc_Lin_copyFrom (zat zc_Lin_copyFrom 21) [(13, a, 0), (13, b, 0)] [] (zcpy f3 (b + 17) 0 (a + 17) 0 4, t) = _
    rw [hf4, lc_cp21, e11, zG2 (by omega) (by omega), lc_cp53]
  · rw [← h1 c c0 c1]
    by_cases k1 : 12 ≤ c
    · rw [zcF_in ab k1 (by omega), zup_na (by omega), zcF_out ab (by omega), fb]
    · rw [zcF_out ab (by omega)]
      by_cases k2 : c = 11
      · rw [zupE rfl k2, k2]
        exact (h1 11 (by decide) (by decide)).symm
      · rw [zup_nk k2, zcF_in ab c0 (by omega), fb]
  · rw [zcF_out ab (by omega), zup_na (by omega), zcF_out ab (by omega), w4 _ _ (by omega), w3 _ _ (by omega), w2 _ _ (by omega), y1]
    exact h2
  · rw [zcF_out ab (by omega), zup_na (by omega), zcF_out ab (by omega), w4 _ _ (by omega), w3 _ _ (by omega), y2, w1 _ _ (by omega)]
    exact h3
  · rw [zcF_out ab (by omega), zup_na (by omega), zcF_out ab (by omega), w4 _ _ (by omega), w3 _ _ (by omega), show a + (7 + c) = a + 6 + (c + 1) by omega, z2 _ _ k0 (by rw [w1 _ _ (by omega)]; omega) (by omega) (by omega), w1 _ _ (by omega), show b + 6 + (c + 1) = b + (7 + c) by omega]
    exact h4 k c k0 k1 c0 c1
  · rw [zcF_out ab (by omega), zup_na (by omega), zcF_out ab (by omega), w4 _ _ (by omega), w3 _ _ (by omega), w2 _ _ (by omega), show a + (2 + c) = a + 1 + (c + 1) by omega, z1 _ _ k0 (by omega) (by omega) (by omega), show b + 1 + (c + 1) = b + (2 + c) by omega]
    exact h5 k c k0 k1 c0 c1
  · have ar : ∀ c, 1 ≤ c → c < 6 → zcF (zup (zcF f4 a b 7 4) a 11 (g (B + 9))) a b 7 12 (a + (11 + c)) k = f (b + (11 + c)) k := fun c c0 c1 => by
      rw [zcF_out ab (by omega), zup_na (by omega), zcF_out ab (by omega), w4 _ _ (by omega), show a + (11 + c) = a + 11 + c by omega, z3 _ _ k0 (by omega) c0 c1, w2 _ _ (by omega), w1 _ _ (by omega), show b + 11 + c = b + (11 + c) by omega]
    have a1 := ar 1 (by decide) (by decide)
    have a2 := ar 2 (by decide) (by decide)
    have a3 := ar 3 (by decide) (by decide)
    have a4 := ar 4 (by decide) (by decide)
    have a5 := ar 5 (by decide) (by decide)
    rw [show (11 : Int) + 1 = 12 from rfl] at a1
    rw [show (11 : Int) + 2 = 13 from rfl] at a2
    rw [show (11 : Int) + 3 = 14 from rfl] at a3
    rw [show (11 : Int) + 4 = 15 from rfl] at a4
    rw [show (11 : Int) + 5 = 16 from rfl] at a5
    rw [a1, a2, a3, a4, a5]
    exact h6 k k0 k1
  · rw [zcF_out ab (by omega), zup_na (by omega), zcF_out ab (by omega), z4 _ k0 (by omega), w3 _ _ (by omega), w2 _ _ (by omega), w1 _ _ (by omega)]
    exact h7 k k0 k1
  · rw [zcF_out ab (by omega), zup_na (by omega), zcF_out ab (by omega), w4 _ _ (by omega), w3 _ _ (by omega), w2 _ _ (by omega), w1 _ _ (by omega)]
theorem s_lineAt {q : Int × (Int → Int)} {d : Nat} {σ : zS} {W i : Int} (h0 : 0 ≤ i) (h1 : i < 4) : zM (true, q) d 37 [(18, W, 0), (0, i, 0)] σ = some ((13, W + 23 + 18 * i, 0), σ) := by
  rw [ze_Wor_lineAt, zb_Wor_lineAt_0, if_neg (by omega), zb_Wor_lineAt_2, if_neg (by omega), zb_Wor_lineAt_7, zG2 h0 h1, zb_Wor_lineAt_11, show W + 1 + 22 + 18 * i = W + 23 + 18 * i by omega]
theorem lc_world {q : Int × (Int → Int)} {d : Nat} {t : (Int → Int) × Nat × Nat × Nat × (Int → Int → Bool)} {F : Int → Int → Int} {U W : Int} {g : Int → Int} (hUW : W + 95 ≤ U ∨ U + 95 ≤ W) (h4 : F U 4 = g 3) (hm : g 3 ≤ 4) (hr : ∀ o, 0 ≤ o → o < g 3 → rLR g (10 + 265 * o)) (hL : zWL F W g) : ∀ (k : Nat) (i : Int) (f : Int → Int → Int), 0 ≤ i → i + k = g 3 → (∀ o, 0 ≤ o → o < i → zLC (g (10 + 265 * o + 2)) f (U + 23 + 18 * o) g (10 + 265 * o)) → (∀ o k, (o < U + 23 ∨ U + 95 ≤ o) → f o k = F o k) → ∃ f2, zD (true, q) (d + 3) zc_Wor_copyFrom (zat zc_Wor_copyFrom 6) [(18, U, 0), (18, W, 0), (0, i, 0)] [] (f, t) = zD (true, q) (d + 3) zc_Wor_copyFrom (zat zc_Wor_copyFrom 19) [(18, U, 0), (18, W, 0), (0, g 3, 0)] [] (f2, t) ∧ (∀ o, 0 ≤ o → o < g 3 → zLC (g (10 + 265 * o + 2)) f2 (U + 23 + 18 * o) g (10 + 265 * o)) ∧ (∀ o k, (o < U + 23 ∨ U + 95 ≤ o) → f2 o k = F o k) := by
  intro k
  induction k with
  | zero =>
    intro i f i0 hi hI hF
    have : i = g 3 := by omega
    subst this
    refine ⟨f, ?_, hI, hF⟩
    rw [zb_Wor_copyFrom_6]
    show (if f U 4 ≤ g 3 then _ else _) = _
    rw [hF _ _ (by omega), h4, if_pos (Int.le_refl _)]
  | succ k ih =>
    intro i f i0 hi hI hF
    have hLi : zLC (g (10 + 265 * i + 2)) f (W + 23 + 18 * i) g (10 + 265 * i) := zLC_fr (fun o j o0 o1 => hF o j (by omega)) (hL i i0 (by omega))
    have hri := hr i i0 (by omega)
    obtain ⟨f2, r2, c2, fb2⟩ := c_lineCp (q := q) (d := d) (t := t) (a := U + 23 + 18 * i) (b := W + 23 + 18 * i) (by omega) hri (by have := hri.2.2.1; omega) hLi
    obtain ⟨f3, r3, c3, fr3⟩ := ih (i + 1) f2 (by omega) (by omega) (fun o o0 o1 => by
      by_cases c : o = i
      · rw [c]; exact c2
      · exact zLC_fb fb2 (by omega) (hI o o0 (by omega))) (fun o j ho => (fb2 o j (by omega)).trans (hF o j ho))
    refine ⟨f3, ?_, c3, fr3⟩
    rw [zb_Wor_copyFrom_6]
    show (if f U 4 ≤ i then _ else _) = _
    rw [hF _ _ (by omega), h4, if_neg (by omega), zb_Wor_copyFrom_10, s_lineAt i0 (by omega)]
    show zD (true, q) (d + 3) zc_Wor_copyFrom (zat zc_Wor_copyFrom 13) [(18, U, 0), (18, W, 0), (0, i, 0)] [(13, U + 23 + 18 * i, 0)] (f, t) = _
    rw [zb_Wor_copyFrom_13, s_lineAt i0 (by omega)]
    show zD (true, q) (d + 3) zc_Wor_copyFrom (zat zc_Wor_copyFrom 16) [(18, U, 0), (18, W, 0), (0, i, 0)] [(13, W + 23 + 18 * i, 0), (13, U + 23 + 18 * i, 0)] (f, t) = _
    rw [zb_Wor_copyFrom_16, r2, zK_v, zb_Wor_copyFrom_17, zw_id (by omega) (by omega)]
    exact r3
theorem c_world {q : Int × (Int → Int)} {d : Nat} {t : (Int → Int) × Nat × Nat × Nat × (Int → Int → Bool)} {f : Int → Int → Int} {U W : Int} {g : Int → Int} (hUW : W + 95 ≤ U ∨ U + 95 ≤ W) (h0 : 0 ≤ g 3) (hm : g 3 ≤ 4) (h8 : g 8 ≤ 60) (hr : ∀ o, 0 ≤ o → o < g 3 → rLR g (10 + 265 * o)) (hG : zGC f W g) (hL : zWL f W g) : ∃ f2, zM (true, q) (d + 3) 43 [(18, U, 0), (18, W, 0)] (f, t) = some ((9, 0, 0), (f2, t)) ∧ zGC f2 U g ∧ zWL f2 U g ∧ (∀ o k, (o < U ∨ U + 95 ≤ o) → f2 o k = f o k) := by
  obtain ⟨g4, g5, g6, g7, g8, g9, g10, j1, j2, j3, j4⟩ := hG
  have uw : U ≠ W := by omega
  obtain ⟨f1, r1, c1, fr1⟩ := lc_world (q := q) (d := d) (t := t) (F := zup f U 4 (g 3)) hUW (zupE rfl rfl) hm hr (fun o o0 o1 => zLC_fr (fun x j x0 x1 => zup_na (by omega)) (hL o o0 o1)) (g 3).toNat 0 (zup f U 4 (g 3)) (Int.le_refl 0) (by omega) (fun o o0 o1 => by omega) (fun _ _ _ => rfl)
  have f1W : ∀ k, f1 W k = f W k := fun k => (fr1 _ _ (by omega)).trans (zup_na (by omega))
  have f1J : ∀ k, f1 (W + 20) k = f (W + 20) k := fun k => (fr1 _ _ (by omega)).trans (zup_na (by omega))
  have f1K : ∀ k, f1 (W + 21) k = f (W + 21) k := fun k => (fr1 _ _ (by omega)).trans (zup_na (by omega))
  generalize hf3 : zup (zup (zcpy f1 (W + 21) 0 (U + 21) 0 240) (U + 20) 1 (f (W + 20) 1)) (U + 20) 2 (f (W + 20) 2) = f3
  have w3 : ∀ o k, o ≠ U + 20 → o ≠ U + 21 → f3 o k = f1 o k := fun o k ho ho2 => by rw [← hf3, zup_na ho, zup_na ho, zcpy_na ho2]
  have jou : zM (true, q) (d + 2) 42 [(11, U + 20, 0), (11, W + 20, 0)] (f1, t) = some ((9, 0, 0), (f3, t)) := by
    rw [ze_Jou_copyFrom, zb_Jou_copyFrom_0, show W + 20 + 1 = W + 21 by omega, show U + 20 + 1 = U + 21 by omega, s_copyRow (by decide) (by decide), zK_v, zb_Jou_copyFrom_6]
    show some ((9, 0, 0), (zup (zup (zcpy f1 (W + 21) 0 (U + 21) 0 240) (U + 20) 1 (zcpy f1 (W + 21) 0 (U + 21) 0 240 (W + 20) 1)) (U + 20) 2 (zup (zcpy f1 (W + 21) 0 (U + 21) 0 240) (U + 20) 1 (zcpy f1 (W + 21) 0 (U + 21) 0 240 (W + 20) 1) (W + 20) 2), t)) = _
    rw [zup_na (by omega), zcpy_na (by omega), zcpy_na (by omega), f1J, f1J, hf3]
  have f3W : ∀ k, f3 W k = f W k := fun k => (w3 _ _ (by omega) (by omega)).trans (f1W k)
  refine ⟨zcF f3 U W 6 5, ?_, ⟨?_, ?_, ?_, ?_, ?_, ?_, ?_, ?_, ?_, ?_, fun ago c a0 a1 c0 c1 => ?_⟩, fun o o0 o1 => ?_, fun o k ho => ?_⟩
  · rw [ze_Wor_copyFrom, zb_Wor_copyFrom_0]
    show zD (true, q) (d + 3) zc_Wor_copyFrom (zat zc_Wor_copyFrom 6) [(18, U, 0), (18, W, 0), (0, 0, 0)] [] (zup f U 4 (f W 4), t) = _
    rw [g4, r1, zb_Wor_copyFrom_19, jou, zK_v, lc_cp24]
  · rw [zcF_out uw (by omega), w3 _ _ (by omega) (by omega), fr1 _ _ (by omega), zupE rfl rfl]
  · rw [zcF_in uw (by decide) (by decide), f3W, g5]
  · rw [zcF_in uw (by decide) (by decide), f3W, g6]
  · rw [zcF_in uw (by decide) (by decide), f3W, g7]
  · rw [zcF_in uw (by decide) (by decide), f3W, g8]
  · rw [zcF_in uw (by decide) (by decide), f3W, g9]
  · rw [zcF_in uw (by decide) (by decide), f3W, g10]
  · rw [zcF_out uw (by omega), ← hf3, zupE rfl rfl]
    exact j1
  · rw [zcF_out uw (by omega), ← hf3, zup_nk (by decide), zupE rfl rfl]
    exact j2
  · rw [zcF_out uw (by omega), ← hf3, zup_nk (by decide), zupE rfl rfl]
    exact j3
  · rw [zcF_out uw (by omega), show zcF f3 U W 6 5 (U + 20) 1 = f (W + 20) 1 by rw [zcF_out uw (by omega), ← hf3, zup_nk (by decide), zupE rfl rfl], ← hf3, zup_na (by omega), zup_na (by omega), zcpy_in rfl (by omega) (by omega), f1K, Int.zero_add, Int.sub_zero]
    exact j4 ago c a0 a1 c0 c1
  · exact zLC_fr (fun x j x0 x1 => (zcF_out uw (by omega)).trans (w3 _ _ (by omega) (by omega))) (c1 o o0 o1)
  · rw [zcF_out uw (by omega), w3 _ _ (by omega) (by omega), fr1 _ _ (by omega), zup_na (by omega)]

