/-! ## the reference copies rows -/
def zCp (F f : Int → Int → Int) (A c n B s : Int) : Prop := (∀ j, 0 ≤ j → j < n → f A (c + j) = F B (s + j)) ∧ (∀ o j, (o ≠ A ∨ j < c ∨ c + n ≤ j) → f o j = F o j)
theorem zCp_0 {F : Int → Int → Int} {A c B s : Int} : zCp F F A c 0 B s := ⟨fun j h0 h1 => by omega, fun _ _ _ => rfl⟩
theorem zCp_s {F f : Int → Int → Int} {A c i B s x y : Int} (hx : x = c + i) (hy : y = s + i) (hb : B ≠ A ∨ c ≤ s) (i0 : 0 ≤ i) (h : zCp F f A c i B s) : zCp F (zup f A x (f B y)) A c (i + 1) B s := by
  obtain ⟨h1, h2⟩ := h
  subst hx
  subst hy
  refine ⟨fun j j0 j1 => ?_, fun o j ho => ?_⟩
  · by_cases c2 : j = i
    · rw [c2, zupE rfl rfl]
      exact h2 _ _ (by omega)
    · rw [zup_nk (by omega)]
      exact h1 j j0 (by omega)
  · rw [zup_nka (by omega)]
    exact h2 o j (by omega)
theorem l_aside {q : Int × (Int → Int)} {d : Nat} {t : (Int → Int) × Nat × Nat × Nat × (Int → Int → Bool)} {F : Int → Int → Int} : ∀ (k : Nat) (i : Int) (f : Int → Int → Int), 0 ≤ i → i + k = 1310 → zCp F f 1467 (0) i 1465 (0) → ∃ f2, zD (true, q) d zc_M_putsAside (zat zc_M_putsAside 2) [(20, 1464, 0), (0, i, 0)] [] (f, t) = zD (true, q) d zc_M_putsAside (zat zc_M_putsAside 15) [(20, 1464, 0), (0, 1310, 0)] [] (f2, t) ∧ zCp F f2 1467 (0) 1310 1465 (0) := by
  intro k
  induction k with
  | zero =>
    intro i f i0 hi h
    have e : i = 1310 := by omega
    refine ⟨f, ?_, e ▸ h⟩
    rw [zb_M_putsAside_2]
    show (if 1310 ≤ i then _ else _) = _
    rw [if_pos (by omega), e]
  | succ k ih =>
    intro i f i0 hi h
    obtain ⟨f2, r2, h2⟩ := ih (i + 1) _ (by omega) (by omega) (zCp_s (x := i) (y := i) (by omega) (by omega) (by omega) i0 h)
    refine ⟨f2, ?_, h2⟩
    rw [zb_M_putsAside_2]
    show (if 1310 ≤ i then _ else _) = _
    rw [if_neg (by omega), zb_M_putsAside_5]
    rw [zG2 (by omega) (by omega)]
    show zD (true, q) d zc_M_putsAside (zat zc_M_putsAside 12) [(20, 1464, 0), (0, i, 0)] [(0, f 1465 i, 0), (0, i, 0), (30, 1467, 1310)] (f, t) = _
    rw [zb_M_putsAside_12, zG2 (by omega) (by omega), zb_M_putsAside_13, zw_id (by omega) (by omega)]
    exact r2
theorem l_cback {q : Int × (Int → Int)} {d : Nat} {t : (Int → Int) × Nat × Nat × Nat × (Int → Int → Bool)} {F : Int → Int → Int} : ∀ (k : Nat) (i : Int) (f : Int → Int → Int), 0 ≤ i → i + k = 1310 → zCp F f 1465 (0) i 1467 (0) → ∃ f2, zD (true, q) d zc_M_comesBack (zat zc_M_comesBack 2) [(20, 1464, 0), (0, i, 0)] [] (f, t) = zD (true, q) d zc_M_comesBack (zat zc_M_comesBack 15) [(20, 1464, 0), (0, 1310, 0)] [] (f2, t) ∧ zCp F f2 1465 (0) 1310 1467 (0) := by
  intro k
  induction k with
  | zero =>
    intro i f i0 hi h
    have e : i = 1310 := by omega
    refine ⟨f, ?_, e ▸ h⟩
    rw [zb_M_comesBack_2]
    show (if 1310 ≤ i then _ else _) = _
    rw [if_pos (by omega), e]
  | succ k ih =>
    intro i f i0 hi h
    obtain ⟨f2, r2, h2⟩ := ih (i + 1) _ (by omega) (by omega) (zCp_s (x := i) (y := i) (by omega) (by omega) (by omega) i0 h)
    refine ⟨f2, ?_, h2⟩
    rw [zb_M_comesBack_2]
    show (if 1310 ≤ i then _ else _) = _
    rw [if_neg (by omega), zb_M_comesBack_5]
    rw [zG2 (by omega) (by omega)]
    show zD (true, q) d zc_M_comesBack (zat zc_M_comesBack 12) [(20, 1464, 0), (0, i, 0)] [(0, f 1467 i, 0), (0, i, 0), (30, 1465, 1710)] (f, t) = _
    rw [zb_M_comesBack_12, zG2 (by omega) (by omega), zb_M_comesBack_13, zw_id (by omega) (by omega)]
    exact r2
theorem l_image {q : Int × (Int → Int)} {d : Nat} {t : (Int → Int) × Nat × Nat × Nat × (Int → Int → Bool)} {F : Int → Int → Int} : ∀ (k : Nat) (i : Int) (f : Int → Int → Int), 0 ≤ i → i + k = 1710 → zCp F f 1466 (0) i 1465 (0) → ∃ f2, zD (true, q) d zc_M_image (zat zc_M_image 5) [(20, 1464, 0), (0, i, 0)] [] (f, t) = zD (true, q) d zc_M_image (zat zc_M_image 18) [(20, 1464, 0), (0, 1710, 0)] [] (f2, t) ∧ zCp F f2 1466 (0) 1710 1465 (0) := by
  intro k
  induction k with
  | zero =>
    intro i f i0 hi h
    have e : i = 1710 := by omega
    refine ⟨f, ?_, e ▸ h⟩
    rw [zb_M_image_5]
    show (if 1710 ≤ i then _ else _) = _
    rw [if_pos (by omega), e]
  | succ k ih =>
    intro i f i0 hi h
    obtain ⟨f2, r2, h2⟩ := ih (i + 1) _ (by omega) (by omega) (zCp_s (x := i) (y := i) (by omega) (by omega) (by omega) i0 h)
    refine ⟨f2, ?_, h2⟩
    rw [zb_M_image_5]
    show (if 1710 ≤ i then _ else _) = _
    rw [if_neg (by omega), zb_M_image_8]
    rw [zG2 (by omega) (by omega)]
    show zD (true, q) d zc_M_image (zat zc_M_image 15) [(20, 1464, 0), (0, i, 0)] [(0, f 1465 i, 0), (0, i, 0), (30, 1466, 1710)] (f, t) = _
    rw [zb_M_image_15, zG2 (by omega) (by omega), zb_M_image_16, zw_id (by omega) (by omega)]
    exact r2
theorem l_back {q : Int × (Int → Int)} {d : Nat} {t : (Int → Int) × Nat × Nat × Nat × (Int → Int → Bool)} {F : Int → Int → Int} : ∀ (k : Nat) (i : Int) (f : Int → Int → Int), 0 ≤ i → i + k = 1710 → zCp F f 1465 (0) i 1466 (0) → ∃ f2, zD (true, q) d zc_M_back (zat zc_M_back 10) [(20, 1464, 0), (0, i, 0)] [] (f, t) = zD (true, q) d zc_M_back (zat zc_M_back 23) [(20, 1464, 0), (0, 1710, 0)] [] (f2, t) ∧ zCp F f2 1465 (0) 1710 1466 (0) := by
  intro k
  induction k with
  | zero =>
    intro i f i0 hi h
    have e : i = 1710 := by omega
    refine ⟨f, ?_, e ▸ h⟩
    rw [zb_M_back_10]
    show (if 1710 ≤ i then _ else _) = _
    rw [if_pos (by omega), e]
  | succ k ih =>
    intro i f i0 hi h
    obtain ⟨f2, r2, h2⟩ := ih (i + 1) _ (by omega) (by omega) (zCp_s (x := i) (y := i) (by omega) (by omega) (by omega) i0 h)
    refine ⟨f2, ?_, h2⟩
    rw [zb_M_back_10]
    show (if 1710 ≤ i then _ else _) = _
    rw [if_neg (by omega), zb_M_back_13]
    rw [zG2 (by omega) (by omega)]
    show zD (true, q) d zc_M_back (zat zc_M_back 20) [(20, 1464, 0), (0, i, 0)] [(0, f 1466 i, 0), (0, i, 0), (30, 1465, 1710)] (f, t) = _
    rw [zb_M_back_20, zG2 (by omega) (by omega), zb_M_back_21, zw_id (by omega) (by omega)]
    exact r2
theorem l_shift {q : Int × (Int → Int)} {d : Nat} {t : (Int → Int) × Nat × Nat × Nat × (Int → Int → Bool)} {F : Int → Int → Int} : ∀ (k : Nat) (i : Int) (f : Int → Int → Int), 0 ≤ i → i + k = 14410 → zCp F f 1468 (0) i 1468 (1310) → ∃ f2, zD (true, q) d zc_M_remembers (zat zc_M_remembers 6) [(20, 1464, 0), (0, i, 0)] [] (f, t) = zD (true, q) d zc_M_remembers (zat zc_M_remembers 21) [(20, 1464, 0), (0, 14410, 0)] [] (f2, t) ∧ zCp F f2 1468 (0) 14410 1468 (1310) := by
  intro k
  induction k with
  | zero =>
    intro i f i0 hi h
    have e : i = 14410 := by omega
    refine ⟨f, ?_, e ▸ h⟩
    rw [zb_M_remembers_6]
    show (if 14410 ≤ i then _ else _) = _
    rw [if_pos (by omega), e]
  | succ k ih =>
    intro i f i0 hi h
    obtain ⟨f2, r2, h2⟩ := ih (i + 1) _ (by omega) (by omega) (zCp_s (x := i) (y := 1310 + i) (by omega) (by omega) (by omega) i0 h)
    refine ⟨f2, ?_, h2⟩
    rw [zb_M_remembers_6]
    show (if 14410 ≤ i then _ else _) = _
    rw [if_neg (by omega), zb_M_remembers_9]
    rw [zw_id (by omega) (by omega), zG2 (by omega) (by omega)]
    show zD (true, q) d zc_M_remembers (zat zc_M_remembers 18) [(20, 1464, 0), (0, i, 0)] [(0, f 1468 (i + 1310), 0), (0, i, 0), (30, 1468, 15720)] (f, t) = _
    rw [Int.add_comm i 1310]
    rw [zb_M_remembers_18, zG2 (by omega) (by omega), zb_M_remembers_19, zw_id (by omega) (by omega)]
    exact r2
theorem l_rem {q : Int × (Int → Int)} {d : Nat} {t : (Int → Int) × Nat × Nat × Nat × (Int → Int → Bool)} {F : Int → Int → Int} {A : Int} (hA : F 1464 6 = A) (A0 : 0 ≤ A) (A1 : A < 12) : ∀ (k : Nat) (i : Int) (f : Int → Int → Int), 0 ≤ i → i + k = 1310 → zCp F f 1468 (1310 * A) i 1465 (0) → ∃ f2, zD (true, q) d zc_M_remembers (zat zc_M_remembers 29) [(20, 1464, 0), (0, i, 0)] [] (f, t) = zD (true, q) d zc_M_remembers (zat zc_M_remembers 47) [(20, 1464, 0), (0, 1310, 0)] [] (f2, t) ∧ zCp F f2 1468 (1310 * A) 1310 1465 (0) := by
  intro k
  induction k with
  | zero =>
    intro i f i0 hi h
    have e : i = 1310 := by omega
    refine ⟨f, ?_, e ▸ h⟩
    rw [zb_M_remembers_29]
    show (if 1310 ≤ i then _ else _) = _
    rw [if_pos (by omega), e]
  | succ k ih =>
    intro i f i0 hi h
    obtain ⟨f2, r2, h2⟩ := ih (i + 1) _ (by omega) (by omega) (zCp_s (x := 1310 * A + i) (y := i) (by omega) (by omega) (by omega) i0 h)
    refine ⟨f2, ?_, h2⟩
    rw [zb_M_remembers_29]
    show (if 1310 ≤ i then _ else _) = _
    rw [if_neg (by omega), zb_M_remembers_32]
    have fA : f 1464 6 = A := (h.2 _ _ (by omega)).trans hA
    rw [zG2 (by omega) (by omega)]
    show zD (true, q) d zc_M_remembers (zat zc_M_remembers 44) [(20, 1464, 0), (0, i, 0)] [(0, f 1465 i, 0), (0, zw (zw (1310 * f 1464 6) + i), 0), (30, 1468, 15720)] (f, t) = _
    rw [fA, zw_id (z := 1310 * A) (by omega) (by omega), zw_id (z := 1310 * A + i) (by omega) (by omega)]
    rw [zb_M_remembers_44, zG2 (by omega) (by omega), zb_M_remembers_45, zw_id (by omega) (by omega)]
    exact r2
theorem l_undo {q : Int × (Int → Int)} {d : Nat} {t : (Int → Int) × Nat × Nat × Nat × (Int → Int → Bool)} {F : Int → Int → Int} {A : Int} (hA : F 1464 6 = A) (A0 : 0 ≤ A) (A1 : A < 12) : ∀ (k : Nat) (i : Int) (f : Int → Int → Int), 0 ≤ i → i + k = 1310 → zCp F f 1465 (0) i 1468 (1310 * A) → ∃ f2, zD (true, q) d zc_M_undo (zat zc_M_undo 16) [(20, 1464, 0), (0, i, 0)] [] (f, t) = zD (true, q) d zc_M_undo (zat zc_M_undo 34) [(20, 1464, 0), (0, 1310, 0)] [] (f2, t) ∧ zCp F f2 1465 (0) 1310 1468 (1310 * A) := by
  intro k
  induction k with
  | zero =>
    intro i f i0 hi h
    have e : i = 1310 := by omega
    refine ⟨f, ?_, e ▸ h⟩
    rw [zb_M_undo_16]
    show (if 1310 ≤ i then _ else _) = _
    rw [if_pos (by omega), e]
  | succ k ih =>
    intro i f i0 hi h
    obtain ⟨f2, r2, h2⟩ := ih (i + 1) _ (by omega) (by omega) (zCp_s (x := i) (y := 1310 * A + i) (by omega) (by omega) (by omega) i0 h)
    refine ⟨f2, ?_, h2⟩
    rw [zb_M_undo_16]
    show (if 1310 ≤ i then _ else _) = _
    rw [if_neg (by omega), zb_M_undo_19]
    have fA : f 1464 6 = A := (h.2 _ _ (by omega)).trans hA
    show zG [zw (zw (1310 * f 1464 6) + i), 15720] (zD (true, q) d zc_M_undo (zat zc_M_undo 31) [(20, 1464, 0), (0, i, 0)] [(0, f 1468 (zw (zw (1310 * f 1464 6) + i)), 0), (0, i, 0), (30, 1465, 1710)] (f, t)) = _
    rw [fA, zw_id (z := 1310 * A) (by omega) (by omega), zw_id (z := 1310 * A + i) (by omega) (by omega), zG2 (by omega) (by omega)]
    rw [zb_M_undo_31, zG2 (by omega) (by omega), zb_M_undo_32, zw_id (by omega) (by omega)]
    exact r2
theorem l_lawT {q : Int × (Int → Int)} {d : Nat} {t : (Int → Int) × Nat × Nat × Nat × (Int → Int → Bool)} {F : Int → Int → Int} {n z : Int} (hn : F 1464 10 = n) (n0 : 0 ≤ n) (n4 : n ≤ 400) : ∀ (k : Nat) (i : Int) (f : Int → Int → Int), 0 ≤ i → i + k = n → zCp F f 1465 (1310) i 1469 (0) → ∃ f2, zD (true, q) d zc_M_law (zat zc_M_law 33) [(20, 1464, 0), (0, z, 0), (0, i, 0)] [] (f, t) = zD (true, q) d zc_M_law (zat zc_M_law 49) [(20, 1464, 0), (0, z, 0), (0, n, 0)] [] (f2, t) ∧ zCp F f2 1465 (1310) n 1469 (0) := by
  intro k
  induction k with
  | zero =>
    intro i f i0 hi h
    have e : i = n := by omega
    refine ⟨f, ?_, e ▸ h⟩
    rw [zb_M_law_33]
    show (if f 1464 10 ≤ i then _ else _) = _
    rw [show f 1464 10 = n from (h.2 _ _ (by omega)).trans hn]
    rw [if_pos (by omega), e]
  | succ k ih =>
    intro i f i0 hi h
    obtain ⟨f2, r2, h2⟩ := ih (i + 1) _ (by omega) (by omega) (zCp_s (x := 1310 + i) (y := i) (by omega) (by omega) (by omega) i0 h)
    refine ⟨f2, ?_, h2⟩
    rw [zb_M_law_33]
    show (if f 1464 10 ≤ i then _ else _) = _
    rw [show f 1464 10 = n from (h.2 _ _ (by omega)).trans hn]
    rw [if_neg (by omega), zb_M_law_37]
    rw [zG2 (by omega) (by omega)]
    show zD (true, q) d zc_M_law (zat zc_M_law 46) [(20, 1464, 0), (0, z, 0), (0, i, 0)] [(0, f 1469 i, 0), (0, zw (1310 + i), 0), (30, 1465, 1710)] (f, t) = _
    rw [zw_id (z := 1310 + i) (by omega) (by omega)]
    rw [zb_M_law_46, zG2 (by omega) (by omega), zb_M_law_47, zw_id (by omega) (by omega)]
    exact r2
theorem r_aside {q : Int × (Int → Int)} {d : Nat} {t : (Int → Int) × Nat × Nat × Nat × (Int → Int → Bool)} {f : Int → Int → Int} : ∃ f2, zM (true, q) d 58 [(20, 1464, 0)] (f, t) = some ((9, 0, 0), (f2, t)) ∧ zCp f f2 1467 0 1310 1465 0 := by
  obtain ⟨f2, r2, h2⟩ := l_aside (q := q) (d := d) (t := t) 1310 0 f (Int.le_refl 0) rfl zCp_0
  exact ⟨f2, by rw [ze_M_putsAside, zb_M_putsAside_0, r2, zb_M_putsAside_15], h2⟩
theorem r_cback {q : Int × (Int → Int)} {d : Nat} {t : (Int → Int) × Nat × Nat × Nat × (Int → Int → Bool)} {f : Int → Int → Int} : ∃ f2, zM (true, q) d 85 [(20, 1464, 0)] (f, t) = some ((9, 0, 0), (f2, t)) ∧ zCp f f2 1465 0 1310 1467 0 := by
  obtain ⟨f2, r2, h2⟩ := l_cback (q := q) (d := d) (t := t) 1310 0 f (Int.le_refl 0) rfl zCp_0
  exact ⟨f2, by rw [ze_M_comesBack, zb_M_comesBack_0, r2, zb_M_comesBack_15], h2⟩
theorem r_image {q : Int × (Int → Int)} {d : Nat} {t : (Int → Int) × Nat × Nat × Nat × (Int → Int → Bool)} {f : Int → Int → Int} : ∃ f2, zM (true, q) d 310 [(20, 1464, 0)] (f, t) = some ((9, 0, 0), (zup f2 1464 3 1, t)) ∧ zCp (zup f 1464 0 0) f2 1466 0 1710 1465 0 := by
  obtain ⟨f2, r2, h2⟩ := l_image (q := q) (d := d) (t := t) 1710 0 (zup f 1464 0 0) (Int.le_refl 0) rfl zCp_0
  refine ⟨f2, ?_, h2⟩
  rw [ze_M_image, zb_M_image_0]
  show zD (true, q) d zc_M_image (zat zc_M_image 5) [(20, 1464, 0), (0, 0, 0)] [] (zup f 1464 0 0, t) = _
  rw [r2, zb_M_image_18, zG2 (by decide) (by decide), zb_M_image_21]
theorem r_back0 {q : Int × (Int → Int)} {d : Nat} {t : (Int → Int) × Nat × Nat × Nat × (Int → Int → Bool)} {f : Int → Int → Int} (h : f 1464 3 = 0) : zM (true, q) d 312 [(20, 1464, 0)] (f, t) = some ((0, 0, 0), (zup f 1464 0 0, t)) := by
  rw [ze_M_back, zb_M_back_0]
  show (if zup f 1464 0 0 1464 3 ≠ 0 then _ else _) = _
  rw [zup_nk (by decide), if_neg (by omega), zb_M_back_6, zG2 (by decide) (by decide)]
theorem r_back1 {q : Int × (Int → Int)} {d : Nat} {t : (Int → Int) × Nat × Nat × Nat × (Int → Int → Bool)} {f : Int → Int → Int} (h : f 1464 3 ≠ 0) : ∃ f2, zM (true, q) d 312 [(20, 1464, 0)] (f, t) = some ((0, 1, 0), (zup f2 1464 6 0, t)) ∧ zCp (zup f 1464 0 0) f2 1465 0 1710 1466 0 := by
  obtain ⟨f2, r2, h2⟩ := l_back (q := q) (d := d) (t := t) 1710 0 (zup f 1464 0 0) (Int.le_refl 0) rfl zCp_0
  refine ⟨f2, ?_, h2⟩
  rw [ze_M_back, zb_M_back_0]
  show (if zup f 1464 0 0 1464 3 ≠ 0 then zD (true, q) d zc_M_back (zat zc_M_back 8) [(20, 1464, 0), (2, 0, 0)] [] (zup f 1464 0 0, t) else _) = _
  rw [zup_nk (by decide), if_pos h, zb_M_back_8, r2, zb_M_back_23, zG2 (by decide) (by decide)]
theorem r_undo0 {q : Int × (Int → Int)} {d : Nat} {t : (Int → Int) × Nat × Nat × Nat × (Int → Int → Bool)} {f : Int → Int → Int} (h : f 1464 6 = 0) : zM (true, q) d 308 [(20, 1464, 0)] (f, t) = some ((0, 0, 0), (zup f 1464 0 0, t)) := by
  rw [ze_M_undo, zb_M_undo_0]
  show (if zup f 1464 0 0 1464 6 ≠ 0 then _ else _) = _
  rw [zup_nk (by decide), if_neg (by omega), zb_M_undo_6, zG2 (by decide) (by decide)]
theorem r_undo1 {q : Int × (Int → Int)} {d : Nat} {t : (Int → Int) × Nat × Nat × Nat × (Int → Int → Bool)} {f : Int → Int → Int} {A : Int} (h : f 1464 6 = A + 1) (A0 : 0 ≤ A) (A1 : A < 12) : ∃ f2, zM (true, q) d 308 [(20, 1464, 0)] (f, t) = some ((0, 1, 0), (f2, t)) ∧ zCp (zup (zup f 1464 0 0) 1464 6 A) f2 1465 0 1310 1468 (1310 * A) := by
  obtain ⟨f2, r2, h2⟩ := l_undo (q := q) (d := d) (t := t) (A := A) (F := zup (zup f 1464 0 0) 1464 6 A) (zupE rfl rfl) A0 A1 1310 0 _ (Int.le_refl 0) rfl zCp_0
  refine ⟨f2, ?_, h2⟩
  rw [ze_M_undo, zb_M_undo_0]
  show (if zup f 1464 0 0 1464 6 ≠ 0 then zD (true, q) d zc_M_undo (zat zc_M_undo 8) [(20, 1464, 0), (2, 0, 0)] [] (zup f 1464 0 0, t) else _) = _
  rw [show zup f 1464 0 0 1464 6 = A + 1 by rw [zup_nk (by decide)]; exact h, if_pos (by omega), zb_M_undo_8]
  show zD (true, q) d zc_M_undo (zat zc_M_undo 16) [(20, 1464, 0), (0, 0, 0)] [] (zup (zup f 1464 0 0) 1464 6 (zw (zup f 1464 0 0 1464 6 - 1)), t) = _
  rw [show zup f 1464 0 0 1464 6 = A + 1 by rw [zup_nk (by decide)]; exact h, zw_id (by omega) (by omega), show A + 1 - 1 = A by omega, r2, zb_M_undo_34, zG2 (by decide) (by decide)]
theorem r_rem {q : Int × (Int → Int)} {d : Nat} {t : (Int → Int) × Nat × Nat × Nat × (Int → Int → Bool)} {f : Int → Int → Int} {A : Int} (h : f 1464 6 = A) (A0 : 0 ≤ A) (A1 : A < 12) : ∃ f2, zM (true, q) d 186 [(20, 1464, 0)] (f, t) = some ((9, 0, 0), (zup f2 1464 6 (A + 1), t)) ∧ zCp f f2 1468 (1310 * A) 1310 1465 0 := by
  obtain ⟨f2, r2, h2⟩ := l_rem (q := q) (d := d) (t := t) h A0 A1 1310 0 f (Int.le_refl 0) rfl zCp_0
  refine ⟨f2, ?_, h2⟩
  rw [ze_M_remembers, zb_M_remembers_0]
  show (if f 1464 6 ≠ 12 then _ else _) = _
  rw [h, if_pos (by omega), zb_M_remembers_27, r2, zb_M_remembers_47]
  show some ((9, 0, 0), (zup f2 1464 6 (zw (f2 1464 6 + 1)), t)) = _
  rw [h2.2 _ _ (by omega), h, zw_id (by omega) (by omega)]
theorem r_rem12 {q : Int × (Int → Int)} {d : Nat} {t : (Int → Int) × Nat × Nat × Nat × (Int → Int → Bool)} {f : Int → Int → Int} (h : f 1464 6 = 12) : ∃ f1 f2, zM (true, q) d 186 [(20, 1464, 0)] (f, t) = some ((9, 0, 0), (zup f2 1464 6 12, t)) ∧ zCp f f1 1468 0 14410 1468 1310 ∧ zCp (zup f1 1464 6 11) f2 1468 14410 1310 1465 0 := by
  obtain ⟨f1, r1, h1⟩ := l_shift (q := q) (d := d) (t := t) 14410 0 f (Int.le_refl 0) rfl zCp_0
  obtain ⟨f2, r2, h2⟩ := l_rem (q := q) (d := d) (t := t) (A := 11) (F := zup f1 1464 6 11) (zupE rfl rfl) (by decide) (by decide) 1310 0 _ (Int.le_refl 0) rfl zCp_0
  refine ⟨f1, f2, ?_, h1, h2⟩
  rw [ze_M_remembers, zb_M_remembers_0]
  show (if f 1464 6 ≠ 12 then _ else zD (true, q) d zc_M_remembers (zat zc_M_remembers 4) [(20, 1464, 0), (2, 0, 0)] [] (f, t)) = _
  rw [h, if_neg (by decide), zb_M_remembers_4, r1, zb_M_remembers_21]
  show zD (true, q) d zc_M_remembers (zat zc_M_remembers 29) [(20, 1464, 0), (0, 0, 0)] [] (zup f1 1464 6 (zw (f1 1464 6 - 1)), t) = _
  rw [h1.2 1464 6 (by omega), h, show zw (12 - 1) = 11 by decide, r2, zb_M_remembers_47]
  show some ((9, 0, 0), (zup f2 1464 6 (zw (f2 1464 6 + 1)), t)) = _
  rw [h2.2 _ _ (by omega), zupE rfl rfl]
  rfl
