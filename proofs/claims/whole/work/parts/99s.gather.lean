/-! ## the reference looks for the least greatest sum -/
theorem r_longest {q : Int × (Int → Int)} {d : Nat} {t : (Int → Int) × Nat × Nat × Nat × (Int → Int → Bool)} {g A : Int → Int} {m : Nat} {n : Int} (hm : g 3 = m) (m4 : m ≤ 4) (n8 : n ≤ 8) (hA : ∀ j, 0 ≤ j → j < n → 1 ≤ A j ∧ A j ≤ 9) : ∀ (r : Nat) (k : Int) (R : Int → Int) (h : Int → Int → Int), 0 ≤ k → k + r = n → (∀ l, 0 ≤ l → l < (m : Int) → h 1477 l = R l ∧ 0 ≤ R l ∧ R l ≤ 9 * k) → (∀ j, 0 ≤ j → j < n → h 1474 j = A j) → zM (true, q) (d + r + 1) 225 [(20, 1464, 0), (0, k, 0), (0, n, 0)] (zrow h 1465 g, t) = some ((0, LG (fun l => g (10 + 265 * l + 0)) A m r k R, 0), (zrow h 1465 g, t)) := by
  intro r
  induction r with
  | zero =>
    intro k R h k0 hk hl ha
    have loop : ∀ (j : Nat) (i x : Int), 0 ≤ i → i + j = m → zD (true, q) (d + 0 + 1) zc_M_longest (zat zc_M_longest 7) [(20, 1464, 0), (0, k, 0), (0, n, 0), (0, x, 0), (0, i, 0)] [] (zrow h 1465 g, t) = some ((0, lgMx R j i x, 0), (zrow h 1465 g, t)) := by
      intro j
      induction j with
      | zero =>
        intro i x i0 hi
        rw [zb_M_longest_7]
        simp (disch := omega) only [Int.reduceAdd, zrow_r, zrow_in, zrow_up, zrow_ne, zupE]
        rw [zG2 (by decide) (by decide), zb_M_longest_12, if_pos (by omega), zb_M_longest_22]
        rfl
      | succ j ihj =>
        intro i x i0 hi
        rw [zb_M_longest_7]
        simp (disch := omega) only [Int.reduceAdd, zrow_r, zrow_in, zrow_up, zrow_ne, zupE]
        rw [zG2 (by decide) (by decide), zb_M_longest_12, if_neg (by omega), zb_M_longest_13, zG2 i0 (by omega)]
        simp (disch := omega) only [Int.reduceAdd, zrow_r, zrow_in, zrow_up, zrow_ne, zupE]
        rw [(hl i i0 (by omega)).1, zb_M_longest_18, r_greater, zK_i, zb_M_longest_19, zw_id (z := i + 1) (by omega) (by omega)]
        exact ihj (i + 1) _ (by omega) (by omega)
    rw [ze_M_longest, zb_M_longest_0, if_neg (by omega), zb_M_longest_3]
    exact loop m 0 0 (Int.le_refl 0) (by omega)
  | succ r ih =>
    intro k R h k0 hk hl ha
    have hak := hA k k0 (by omega)
    have fk := ha k k0 (by omega)
    have loop : ∀ (j : Nat) (i x : Int), 0 ≤ i → i + j = m → zD (true, q) (d + r + 2) zc_M_longest (zat zc_M_longest 28) [(20, 1464, 0), (0, k, 0), (0, n, 0), (0, x, 0), (0, i, 0)] [] (zrow h 1465 g, t) = some ((0, lgF (fun l => g (10 + 265 * l + 0)) (LG (fun l => g (10 + 265 * l + 0)) A m r (k + 1)) R (A k) j i x, 0), (zrow h 1465 g, t)) := by
      intro j
      induction j with
      | zero =>
        intro i x i0 hi
        rw [zb_M_longest_28]
        simp (disch := omega) only [Int.reduceAdd, zrow_r, zrow_in, zrow_up, zrow_ne, zupE]
        rw [zG2 (by decide) (by decide), zb_M_longest_33, if_pos (by omega), zb_M_longest_74]
        rfl
      | succ j ihj =>
        intro i x i0 hi
        obtain ⟨l1, l2, l3⟩ := hl i i0 (by omega)
        have un : ∀ x, lgF (fun l => g (10 + 265 * l + 0)) (LG (fun l => g (10 + 265 * l + 0)) A m r (k + 1)) R (A k) (j + 1) i x = lgF (fun l => g (10 + 265 * l + 0)) (LG (fun l => g (10 + 265 * l + 0)) A m r (k + 1)) R (A k) j (i + 1) (if g (10 + 265 * i + 0) = 2 then (if LG (fun l => g (10 + 265 * l + 0)) A m r (k + 1) (zup1 R i (R i + A k)) ≤ x then LG (fun l => g (10 + 265 * l + 0)) A m r (k + 1) (zup1 R i (R i + A k)) else x) else x) := fun x => rfl
        rw [un, zb_M_longest_28]
        simp (disch := omega) only [Int.reduceAdd, zrow_r, zrow_in, zrow_up, zrow_ne, zupE]
        rw [zG2 (by decide) (by decide), zb_M_longest_33, if_neg (by omega), zb_M_longest_34, r_of i0 (by omega) (by decide) (by decide), zK_i, zb_M_longest_38]
        by_cases s : g (10 + 265 * i + 0) = 2
        · have hre := ih (k + 1) (zup1 R i (R i + A k)) (zup h 1477 i (R i + A k)) (by omega) (by omega) (fun l l0 l1' => by
            obtain ⟨a1, a2, a3⟩ := hl l l0 l1'
            by_cases c : l = i
            · rw [c, zupE rfl rfl, zup1_eq rfl]
              omega
            · rw [zup_nk c, zup1_ne c]
              omega) (fun j j0 j1 => (zup_na (by decide)).trans (ha j j0 j1))
          generalize LG (fun l => g (10 + 265 * l + 0)) A m r (k + 1) (zup1 R i (R i + A k)) = v at hre
          rw [if_pos s, if_pos s, zb_M_longest_41, zG2 i0 (by omega)]
          simp (disch := omega) only [Int.reduceAdd, zrow_r, zrow_in, zrow_up, zrow_ne, zupE]
          rw [l1, zb_M_longest_46, zG2 k0 (by omega)]
          simp (disch := omega) only [Int.reduceAdd, zrow_r, zrow_in, zrow_up, zrow_ne, zupE]
          rw [fk, zb_M_longest_50, zG2 i0 (by omega), zw_id (z := R i + A k) (by omega) (by omega)]
          simp (disch := omega) only [Int.reduceAdd, zrow_r, zrow_in, zrow_up, zrow_ne, zupE]
          rw [zb_M_longest_52, zw_id (z := k + 1) (by omega) (by omega), hre, zK_i, zb_M_longest_59, r_lesser, zK_i, zb_M_longest_60, zG2 i0 (by omega)]
          simp (disch := omega) only [Int.reduceAdd, zrow_r, zrow_in, zrow_up, zrow_ne, zupE]
          rw [zb_M_longest_66, zG2 k0 (by omega)]
          simp (disch := omega) only [Int.reduceAdd, zrow_r, zrow_in, zrow_up, zrow_ne, zupE, zup_na]
          rw [fk, zb_M_longest_70, zG2 i0 (by omega), zw_id (z := R i + A k - A k) (by omega) (by omega), show R i + A k - A k = h 1477 i by omega]
          simp (disch := omega) only [Int.reduceAdd, zrow_r, zrow_in, zrow_up, zrow_ne, zupE]
          rw [zup_zup, zup_self, zb_M_longest_72, zw_id (z := i + 1) (by omega) (by omega)]
          exact ihj (i + 1) _ (by omega) (by omega)
        · rw [if_neg s, if_neg s, zb_M_longest_40, zw_id (z := i + 1) (by omega) (by omega)]
          exact ihj (i + 1) _ (by omega) (by omega)
    rw [ze_M_longest, zb_M_longest_0, if_pos (by omega), zb_M_longest_24]
    exact loop m 0 2000000000 (Int.le_refl 0) (by omega)
/-! ### the first units -/
def gaI (V : Int → Int) : Nat → Int → Int × (Int → Int) × Int → Int × (Int → Int) × Int
  | 0, _, x => x
  | j + 1, k, x => if x.1 < 8 then gaI V j (k + 1) (x.1 + 1, zup1 x.2.1 x.1 (V k), x.2.2 + V k) else x
def gaO (g : Int → Int) : Nat → Int → Int × (Int → Int) × Int → Int × (Int → Int) × Int
  | 0, _, x => x
  | j + 1, i, x => gaO g j (i + 1) (gaI (fun k => g (10 + 265 * i + (73 + 2 * k + 1))) (g (10 + 265 * i + 6)).toNat 0 x)
def gaP (x : Int × (Int → Int) × Int) : Prop := 0 ≤ x.1 ∧ x.1 ≤ 8 ∧ (∀ j, 0 ≤ j → j < x.1 → 1 ≤ x.2.1 j ∧ x.2.1 j ≤ 9) ∧ x.2.2 = zsum x.2.1 x.1.toNat 0
theorem zsum_sn2 {A : Int → Int} : ∀ (n : Nat) (i : Int), zsum A (n + 1) i = zsum A n i + A (i + n) := by
  intro n
  induction n with
  | zero => intro i; show A i + 0 = 0 + A (i + 0); rw [Int.add_zero, Int.zero_add, Int.add_zero]
  | succ n ih =>
    intro i
    have h := ih (i + 1)
    show A i + zsum A (n + 1) (i + 1) = A i + zsum A n (i + 1) + A (i + (n + 1 : Nat))
    rw [h, show i + 1 + (n : Int) = i + (n + 1 : Nat) by omega, Int.add_assoc]
theorem gaP_s {x : Int × (Int → Int) × Int} {v : Int} (h : gaP x) (h8 : x.1 < 8) (hv : 1 ≤ v ∧ v ≤ 9) : gaP (x.1 + 1, zup1 x.2.1 x.1 v, x.2.2 + v) := by
  obtain ⟨a, b, c, e⟩ := h
  refine ⟨by show 0 ≤ x.1 + 1; omega, by show x.1 + 1 ≤ 8; omega, fun j j0 j1 => ?_, ?_⟩
  · have j1 : j < x.1 + 1 := j1
    show 1 ≤ zup1 x.2.1 x.1 v j ∧ zup1 x.2.1 x.1 v j ≤ 9
    by_cases cj : j = x.1
    · rw [zup1_eq cj]; exact hv
    · rw [zup1_ne cj]; exact c j j0 (by omega)
  · show x.2.2 + v = zsum (zup1 x.2.1 x.1 v) (x.1 + 1).toNat 0
    rw [show (x.1 + 1).toNat = x.1.toNat + 1 by omega, zsum_sn2, show (0 : Int) + (x.1.toNat : Int) = x.1 by omega, zup1_eq rfl, e, zsum_congr (g := zup1 x.2.1 x.1 v) (h := x.2.1) _ 0 (fun j j0 j1 => zup1_ne (by omega))]
theorem gaP_I {V : Int → Int} : ∀ (j : Nat) (k : Int) (x : Int × (Int → Int) × Int), gaP x → (∀ o, k ≤ o → o < k + j → 1 ≤ V o ∧ V o ≤ 9) → gaP (gaI V j k x) := by
  intro j
  induction j with
  | zero => intro k x h _; exact h
  | succ j ih =>
    intro k x h hV
    show gaP (if x.1 < 8 then gaI V j (k + 1) (x.1 + 1, zup1 x.2.1 x.1 (V k), x.2.2 + V k) else x)
    by_cases c : x.1 < 8
    · rw [if_pos c]
      exact ih (k + 1) _ (gaP_s h c (hV k (by omega) (by omega))) (fun o o0 o1 => hV o (by omega) (by omega))
    · rw [if_neg c]
      exact h
theorem gaP_O {g : Int → Int} {m : Int} (hV : ∀ i, 0 ≤ i → i < m → rLR g (10 + 265 * i) ∧ rLL g (10 + 265 * i)) : ∀ (j : Nat) (i : Int) (x : Int × (Int → Int) × Int), 0 ≤ i → i + j = m → gaP x → gaP (gaO g j i x) := by
  intro j
  induction j with
  | zero => intro i x _ _ h; exact h
  | succ j ih =>
    intro i x i0 hi h
    have hv := hV i i0 (by omega)
    exact ih (i + 1) _ (by omega) (by omega) (gaP_I _ _ _ h (fun o o0 o1 => hv.2.2 o o0 (by have := hv.1.2.2.2.2.2.2.1; omega)))
theorem c_gather {q : Int × (Int → Int)} {d : Nat} {N : Int} {t : (Int → Int) × Nat × Nat × Nat × (Int → Int → Bool)} {f : Int → Int → Int} (hR : ZR N f f) : ∃ f2, zM (true, q) (d + 1) 219 [(17, 317, 0), (18, 23, 0)] (f, t) = some ((0, (gaO (f 1465) (f 1465 3).toNat 0 (0, f 318, 0)).2.2, 0), (f2, t)) ∧ (∀ o k, (o ≠ 317 ∨ k ≠ 5) → o ≠ 318 → f2 o k = f o k) ∧ f2 317 5 = (gaO (f 1465) (f 1465 3).toNat 0 (0, f 318, 0)).1 ∧ f2 318 = (gaO (f 1465) (f 1465 3).toNat 0 (0, f 318, 0)).2.1 := by
  have h4 := ZR_4 hR
  have hV : ∀ i, 0 ≤ i → i < f 1465 3 → rLR (f 1465) (10 + 265 * i) ∧ rLL (f 1465) (10 + 265 * i) := fun i i0 i1 => ⟨(ZR_line hR i0 i1).2.1, (ZR_line hR i0 i1).2.2.1⟩
  have inner : ∀ (i : Int), 0 ≤ i → i < f 1465 3 → ∀ (j : Nat) (k : Int) (x : Int × (Int → Int) × Int) (F : Int → Int → Int), 0 ≤ k → k + j = f 1465 (10 + 265 * i + 6) → gaP x → (∀ o k, (o ≠ 317 ∨ k ≠ 5) → o ≠ 318 → F o k = f o k) → F 317 5 = x.1 → F 318 = x.2.1 → ∃ F2 v5, zD (true, q) (d + 1) zc_Way_gather (zat zc_Way_gather 18) [(17, 317, 0), (18, 23, 0), (0, x.2.2, 0), (0, i, 0), (16, 46 + 18 * i + 1, 96), (0, k, 0)] [] (F, t) = zD (true, q) (d + 1) zc_Way_gather (zat zc_Way_gather 7) [(17, 317, 0), (18, 23, 0), (0, (gaI (fun k => f 1465 (10 + 265 * i + (73 + 2 * k + 1))) j k x).2.2, 0), (0, i + 1, 0), (16, 46 + 18 * i + 1, 96), v5] [] (F2, t) ∧ (∀ o k, (o ≠ 317 ∨ k ≠ 5) → o ≠ 318 → F2 o k = f o k) ∧ F2 317 5 = (gaI (fun k => f 1465 (10 + 265 * i + (73 + 2 * k + 1))) j k x).1 ∧ F2 318 = (gaI (fun k => f 1465 (10 + 265 * i + (73 + 2 * k + 1))) j k x).2.1 := by
    intro i i0 i1 j
    obtain ⟨hC, _⟩ := ZR_line hR i0 i1
    have hv := hV i i0 i1
    have q6 := hv.1.2.2.2.2.2.2.1
    induction j with
    | zero =>
      intro k x F k0 hk hx fr h5 h8
      refine ⟨F, (0, k, 0), ?_, fr, h5, h8⟩
      rw [zb_Way_gather_18]
      show (if F (46 + 18 * i + 1) 4 ≤ k then _ else _) = _
      rw [fr _ _ (by omega) (by omega), hC.2.1, if_pos (by omega), zb_Way_gather_50, zw_id (z := i + 1) (by omega) (by omega)]
      rfl
    | succ j ih =>
      intro k x F k0 hk hx fr h5 h8
      have vk : F (46 + 18 * i + 1 + 2) k = f 1465 (10 + 265 * i + (73 + 2 * k + 1)) := by
        rw [fr _ _ (by omega) (by omega), show 46 + 18 * i + 1 + 2 = 46 + 18 * i + (2 + 1) by omega]
        exact hC.2.2.2.2.1 k 1 k0 (by omega) (by decide) (by decide)
      have vr := hv.2.2 k k0 (by omega)
      have x22 : 0 ≤ x.2.2 ∧ x.2.2 ≤ 72 := by
        have := zsum_rng (g := x.2.1) (lo := 0) (hi := 9) x.1.toNat 0 (fun k k0 k1 => by have := hx.2.2.1 k k0 (by omega); omega)
        rw [hx.2.2.2]
        have h1 := hx.1
        have h2 := hx.2.1
        omega
      have un : gaI (fun k => f 1465 (10 + 265 * i + (73 + 2 * k + 1))) (j + 1) k x = if x.1 < 8 then gaI (fun k => f 1465 (10 + 265 * i + (73 + 2 * k + 1))) j (k + 1) (x.1 + 1, zup1 x.2.1 x.1 (f 1465 (10 + 265 * i + (73 + 2 * k + 1))), x.2.2 + f 1465 (10 + 265 * i + (73 + 2 * k + 1))) else x := rfl
      rw [un, zb_Way_gather_18]
      show ∃ F2 v5, (if F (46 + 18 * i + 1) 4 ≤ k then _ else _) = _ ∧ _
      rw [fr _ _ (by omega) (by omega), hC.2.1, if_neg (by omega), zb_Way_gather_22]
      show ∃ F2 v5, (if 8 ≤ F 317 5 then _ else _) = _ ∧ _
      rw [h5]
      by_cases c : x.1 < 8
      · rw [if_pos c, if_neg (by omega)]
        have hx1 := hx.1
        obtain ⟨F2, v5, r2, fr2, y2, z2⟩ := ih (k + 1) (x.1 + 1, zup1 x.2.1 x.1 (f 1465 (10 + 265 * i + (73 + 2 * k + 1))), x.2.2 + f 1465 (10 + 265 * i + (73 + 2 * k + 1))) (zup (zup F 318 x.1 (f 1465 (10 + 265 * i + (73 + 2 * k + 1)))) 317 5 (x.1 + 1)) (by omega) (by omega) (gaP_s hx c vr) (fun o k a b => by rw [zup_nka (by omega), zup_na b]; exact fr o k a b) (zupE rfl rfl) (by
          funext j
          rw [zup_na (by decide)]
          show zup F 318 x.1 _ 318 j = zup1 x.2.1 x.1 _ j
          rw [← h8]
          by_cases cj : j = x.1
          · rw [cj, zupE rfl rfl, zup1_eq rfl]
          · rw [zup_nk cj, zup1_ne cj])
        refine ⟨F2, v5, ?_, fr2, y2, z2⟩
        rw [zb_Way_gather_26, s_at k0 (by omega), zK_i]
        show zD (true, q) (d + 1) zc_Way_gather (zat zc_Way_gather 34) _ [(0, F (46 + 18 * i + 1 + 2) k, 0), (0, F 317 5, 0), (30, 318, 8)] (F, t) = _
        rw [vk, h5, zb_Way_gather_34, s_put hx1 c, zK_v, zb_Way_gather_35, s_at k0 (by omega), zK_i]
        show zD (true, q) (d + 1) zc_Way_gather (zat zc_Way_gather 40) _ [(0, zup F 318 x.1 (f 1465 (10 + 265 * i + (73 + 2 * k + 1))) (46 + 18 * i + 1 + 2) k, 0), (0, x.2.2, 0)] (zup F 318 x.1 (f 1465 (10 + 265 * i + (73 + 2 * k + 1))), t) = _
        rw [zup_na (by omega), vk, zb_Way_gather_40]
        show zD (true, q) (d + 1) zc_Way_gather (zat zc_Way_gather 18) _ _ (zup (zup F 318 x.1 (f 1465 (10 + 265 * i + (73 + 2 * k + 1)))) 317 5 (zw (zup F 318 x.1 (f 1465 (10 + 265 * i + (73 + 2 * k + 1))) 317 5 + 1)), t) = _
        rw [zup_na (b := 317) (by decide), h5, zw_id (z := x.1 + 1) (by omega) (by omega), zw_id (z := k + 1) (by omega) (by omega), zw_id (z := x.2.2 + f 1465 (10 + 265 * i + (73 + 2 * k + 1))) (by omega) (by omega)]
        exact r2
      · rw [if_neg c, if_pos (by omega)]
        refine ⟨F, (0, k, 0), ?_, fr, h5, h8⟩
        rw [zb_Way_gather_50, zw_id (z := i + 1) (by omega) (by omega)]
  have outer : ∀ (j : Nat) (i : Int) (x : Int × (Int → Int) × Int) (v4 v5 : zV) (F : Int → Int → Int), 0 ≤ i → i + j = f 1465 3 → gaP x → (∀ o k, (o ≠ 317 ∨ k ≠ 5) → o ≠ 318 → F o k = f o k) → F 317 5 = x.1 → F 318 = x.2.1 → ∃ F2, zD (true, q) (d + 1) zc_Way_gather (zat zc_Way_gather 7) [(17, 317, 0), (18, 23, 0), (0, x.2.2, 0), (0, i, 0), v4, v5] [] (F, t) = some ((0, (gaO (f 1465) j i x).2.2, 0), (F2, t)) ∧ (∀ o k, (o ≠ 317 ∨ k ≠ 5) → o ≠ 318 → F2 o k = f o k) ∧ F2 317 5 = (gaO (f 1465) j i x).1 ∧ F2 318 = (gaO (f 1465) j i x).2.1 := by
    intro j
    induction j with
    | zero =>
      intro i x v4 v5 F i0 hi hx fr h5 h8
      refine ⟨F, ?_, fr, h5, h8⟩
      rw [zb_Way_gather_7]
      show (if F 23 4 ≤ i then _ else _) = _
      rw [fr _ _ (by omega) (by omega), if_pos (by omega), zb_Way_gather_52]
      rfl
    | succ j ih =>
      intro i x v4 v5 F i0 hi hx fr h5 h8
      have hv := hV i i0 (by omega)
      have q6 := hv.1.2.2.2.2.2.2.1
      obtain ⟨F2, w5, r2, fr2, y2, z2⟩ := inner i i0 (by omega) (f 1465 (10 + 265 * i + 6)).toNat 0 x F (Int.le_refl 0) (by omega) hx fr h5 h8
      obtain ⟨F3, r3, fr3, y3, z3⟩ := ih (i + 1) _ (16, 46 + 18 * i + 1, 96) w5 F2 (by omega) (by omega) (gaP_I (V := fun k => f 1465 (10 + 265 * i + (73 + 2 * k + 1))) (f 1465 (10 + 265 * i + 6)).toNat 0 x hx (fun o o0 o1 => hv.2.2 o o0 (by omega))) fr2 y2 z2
      refine ⟨F3, ?_, fr3, y3, z3⟩
      rw [zb_Way_gather_7]
      show (if F 23 4 ≤ i then _ else _) = _
      rw [fr _ _ (by omega) (by omega), if_neg (by omega), zb_Way_gather_11, s_lineAt i0 (by omega), zK_13, zb_Way_gather_14, show (23 : Int) + 23 + 18 * i = 46 + 18 * i by omega, r2]
      exact r3
  obtain ⟨F2, r2, fr2, y2, z2⟩ := outer (f 1465 3).toNat 0 (0, f 318, 0) (2, 0, 0) (2, 0, 0) (zup f 317 5 0) (Int.le_refl 0) (by omega) ⟨Int.le_refl 0, (show (0 : Int) ≤ 8 by decide), fun j j0 j1 => absurd j1 (by show ¬ j < 0; omega), rfl⟩ (fun o k a b => zup_nka (by omega)) (zupE rfl rfl) (zup_row (by decide))
  exact ⟨F2, by rw [ze_Way_gather, zb_Way_gather_0]; exact r2, fr2, y2, z2⟩
theorem r_first {q : Int × (Int → Int)} {d : Nat} {t : (Int → Int) × Nat × Nat × Nat × (Int → Int → Bool)} {h : Int → Int → Int} {g B0 : Int → Int} (m0 : 0 ≤ g 3) (m4 : g 3 ≤ 4) (hV : ∀ i, 0 ≤ i → i < g 3 → rLR g (10 + 265 * i) ∧ rLL g (10 + 265 * i)) : ∃ h2, zM (true, q) (d + 2) 224 [(20, 1464, 0)] (zrow h 1465 g, t) = some ((0, (gaO g (g 3).toNat 0 (0, B0, 0)).1, 0), (zrow h2 1465 g, t)) ∧ (∀ o k, o ≠ 1474 → h2 o k = h o k) ∧ ∀ j, 0 ≤ j → j < (gaO g (g 3).toNat 0 (0, B0, 0)).1 → h2 1474 j = (gaO g (g 3).toNat 0 (0, B0, 0)).2.1 j := by
  have inner : ∀ (i : Int), 0 ≤ i → i < g 3 → ∀ (j : Nat) (k : Int) (x : Int × (Int → Int) × Int) (F : Int → Int → Int), 0 ≤ k → k + j = g (10 + 265 * i + 6) → gaP x → (∀ o k, o ≠ 1474 → F o k = h o k) → (∀ j, 0 ≤ j → j < x.1 → F 1474 j = x.2.1 j) → ∃ F2 v3, zD (true, q) (d + 2) zc_M_firstUnits (zat zc_M_firstUnits 12) [(20, 1464, 0), (0, x.1, 0), (0, i, 0), (0, k, 0)] [] (zrow F 1465 g, t) = zD (true, q) (d + 2) zc_M_firstUnits (zat zc_M_firstUnits 4) [(20, 1464, 0), (0, (gaI (fun k => g (10 + 265 * i + (73 + 2 * k + 1))) j k x).1, 0), (0, i + 1, 0), v3] [] (zrow F2 1465 g, t) ∧ (∀ o k, o ≠ 1474 → F2 o k = h o k) ∧ (∀ l, 0 ≤ l → l < (gaI (fun k => g (10 + 265 * i + (73 + 2 * k + 1))) j k x).1 → F2 1474 l = (gaI (fun k => g (10 + 265 * i + (73 + 2 * k + 1))) j k x).2.1 l) := by
    intro i i0 i1 j
    have hv := hV i i0 i1
    have q6 := hv.1.2.2.2.2.2.2.1
    induction j with
    | zero =>
      intro k x F k0 hk hx fr h8
      refine ⟨F, (0, k, 0), ?_, fr, h8⟩
      rw [zb_M_firstUnits_12, r_of i0 (by omega) (by decide) (by decide), zK_i, zb_M_firstUnits_17, if_pos (by omega), zb_M_firstUnits_33, zw_id (z := i + 1) (by omega) (by omega)]
      rfl
    | succ j ih =>
      intro k x F k0 hk hx fr h8
      have vr := hv.2.2 k k0 (by omega)
      have un : gaI (fun k => g (10 + 265 * i + (73 + 2 * k + 1))) (j + 1) k x = if x.1 < 8 then gaI (fun k => g (10 + 265 * i + (73 + 2 * k + 1))) j (k + 1) (x.1 + 1, zup1 x.2.1 x.1 (g (10 + 265 * i + (73 + 2 * k + 1))), x.2.2 + g (10 + 265 * i + (73 + 2 * k + 1))) else x := rfl
      rw [un, zb_M_firstUnits_12, r_of i0 (by omega) (by decide) (by decide), zK_i, zb_M_firstUnits_17, if_neg (by omega), zb_M_firstUnits_18]
      by_cases c : x.1 < 8
      · rw [if_pos c, if_neg (by omega)]
        have hx1 := hx.1
        obtain ⟨F2, v5, r2, fr2, y2⟩ := ih (k + 1) (x.1 + 1, zup1 x.2.1 x.1 (g (10 + 265 * i + (73 + 2 * k + 1))), x.2.2 + g (10 + 265 * i + (73 + 2 * k + 1))) (zup F 1474 x.1 (g (10 + 265 * i + (73 + 2 * k + 1)))) (by omega) (by omega) (gaP_s hx c vr) (fun o k b => (zup_na b).trans (fr o k b)) (fun l l0 l1 => by
          have l1 : l < x.1 + 1 := l1
          show zup F 1474 x.1 _ 1474 l = zup1 x.2.1 x.1 _ l
          by_cases cj : l = x.1
          · rw [cj, zupE rfl rfl, zup1_eq rfl]
          · rw [zup_nk cj, zup1_ne cj]
            exact h8 l l0 (by omega))
        refine ⟨F2, v5, ?_, fr2, y2⟩
        rw [zb_M_firstUnits_21, r_queued i0 (by omega) k0 (by omega) (by decide) (by decide), zK_i, zb_M_firstUnits_29, zG2 hx1 (by omega)]
        simp (disch := omega) only [Int.reduceAdd, zrow_r, zrow_in, zrow_up, zrow_ne, zupE]
        rw [zb_M_firstUnits_30, zw_id (z := x.1 + 1) (by omega) (by omega), zw_id (z := k + 1) (by omega) (by omega)]
        exact r2
      · rw [if_neg c, if_pos (by omega)]
        refine ⟨F, (0, k, 0), ?_, fr, h8⟩
        rw [zb_M_firstUnits_33, zw_id (z := i + 1) (by omega) (by omega)]
  have outer : ∀ (j : Nat) (i : Int) (x : Int × (Int → Int) × Int) (v3 : zV) (F : Int → Int → Int), 0 ≤ i → i + j = g 3 → gaP x → (∀ o k, o ≠ 1474 → F o k = h o k) → (∀ j, 0 ≤ j → j < x.1 → F 1474 j = x.2.1 j) → ∃ F2, zD (true, q) (d + 2) zc_M_firstUnits (zat zc_M_firstUnits 4) [(20, 1464, 0), (0, x.1, 0), (0, i, 0), v3] [] (zrow F 1465 g, t) = some ((0, (gaO g j i x).1, 0), (zrow F2 1465 g, t)) ∧ (∀ o k, o ≠ 1474 → F2 o k = h o k) ∧ ∀ l, 0 ≤ l → l < (gaO g j i x).1 → F2 1474 l = (gaO g j i x).2.1 l := by
    intro j
    induction j with
    | zero =>
      intro i x v3 F i0 hi hx fr h8
      refine ⟨F, ?_, fr, h8⟩
      rw [zb_M_firstUnits_4]
      simp (disch := omega) only [Int.reduceAdd, zrow_r, zrow_in, zrow_up, zrow_ne, zupE]
      rw [zG2 (by decide) (by decide), zb_M_firstUnits_9, if_pos (by omega), zb_M_firstUnits_35]
      rfl
    | succ j ih =>
      intro i x v3 F i0 hi hx fr h8
      have hv := hV i i0 (by omega)
      have q6 := hv.1.2.2.2.2.2.2.1
      obtain ⟨F2, w5, r2, fr2, y2⟩ := inner i i0 (by omega) (g (10 + 265 * i + 6)).toNat 0 x F (Int.le_refl 0) (by omega) hx fr h8
      obtain ⟨F3, r3, fr3, y3⟩ := ih (i + 1) _ w5 F2 (by omega) (by omega) (gaP_I (V := fun k => g (10 + 265 * i + (73 + 2 * k + 1))) (g (10 + 265 * i + 6)).toNat 0 x hx (fun o o0 o1 => hv.2.2 o o0 (by omega))) fr2 y2
      refine ⟨F3, ?_, fr3, y3⟩
      rw [zb_M_firstUnits_4]
      simp (disch := omega) only [Int.reduceAdd, zrow_r, zrow_in, zrow_up, zrow_ne, zupE]
      rw [zG2 (by decide) (by decide), zb_M_firstUnits_9, if_neg (by omega), zb_M_firstUnits_10, r2]
      exact r3
  obtain ⟨F2, r2, fr2, y2⟩ := outer (g 3).toNat 0 (0, B0, 0) (2, 0, 0) h (Int.le_refl 0) (by omega) ⟨Int.le_refl 0, (show (0 : Int) ≤ 8 by decide), fun j j0 j1 => absurd j1 (by show ¬ j < 0; omega), rfl⟩ (fun _ _ _ => rfl) (fun j j0 j1 => absurd j1 (by show ¬ j < 0; omega))
  exact ⟨F2, by rw [ze_M_firstUnits, zb_M_firstUnits_0]; exact r2, fr2, y2⟩

