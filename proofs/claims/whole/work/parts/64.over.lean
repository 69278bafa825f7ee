/-! ## the class: the fewest, units from row to row -/
def zWL (f : Int → Int → Int) (W : Int) (g : Int → Int) : Prop := ∀ o, 0 ≤ o → o < g 3 → zLC (g (10 + 265 * o + 2)) f (W + 23 + 18 * o) g (10 + 265 * o)
theorem l_few {q : Int × (Int → Int)} {d : Nat} {σ : zS} {W l : Int} {g : Int → Int} (h4 : σ.1 W 4 = g 3) (hm : g 3 ≤ 4) (hW : zWL σ.1 W g) (hk : ∀ o, 0 ≤ o → o < g 3 → 0 ≤ g (10 + 265 * o + 7) ∧ g (10 + 265 * o + 7) ≤ 8 ∧ 0 ≤ g (10 + 265 * o + 6) ∧ g (10 + 265 * o + 6) ≤ 96) : ∀ (n : Nat) (o to : Int) (v : zV), 0 ≤ o → o + n = g 3 → (to = -1 ∨ (0 ≤ to ∧ to < o)) → zD (true, q) (d + 1) zc_Wor_fewest (zat zc_Wor_fewest 4) [(18, W, 0), (0, l, 0), (0, to, 0), (0, o, 0), v] [] σ = some ((0, rOthS g l n o to, 0), σ) := by
  intro n
  induction n with
  | zero =>
    intro o to v h0 hn ht
    rw [zb_Wor_fewest_4, if_pos (by omega), zb_Wor_fewest_33]
    rfl
  | succ n ih =>
    intro o to v h0 hn ht
    have z := hW o h0 (by omega)
    have s0 := zc_f4 z
    have s6 := z.2.1
    have s7 := z.2.2.1
    obtain ⟨a1, a2, a3, a4⟩ := hk o h0 (by omega)
    rw [zb_Wor_fewest_4, if_neg (by omega), zb_Wor_fewest_8, c_lineAt h0 (by omega)]
    show zD (true, q) (d + 1) zc_Wor_fewest (zat zc_Wor_fewest 11) _ [(13, W + 23 + 18 * o, 0)] σ = some ((0, rOthS g l n (o + 1) (if rBet g l o to = true then o else to), 0), σ)
    rw [zb_Wor_fewest_11]
    have no : rBet g l o to = true → (rBet g l o to = true) := id
    unfold rBet
    simp only [decide_eq_true_eq]
    by_cases c1 : o = l
    · rw [if_pos c1, if_neg (fun z => z.1 c1), zb_Wor_fewest_31, zw_id (by omega) (by omega)]
      exact ih (o + 1) to _ (by omega) (by omega) (by omega)
    · rw [if_neg c1, zb_Wor_fewest_15]
      by_cases c2 : g (10 + 265 * o + 0) = 2
      · rw [if_neg (by omega), zb_Wor_fewest_19]
        by_cases c3 : to = -1
        · rw [if_pos c3, if_pos ⟨c1, c2, Or.inl c3⟩, zb_Wor_fewest_29, zw_id (by omega) (by omega)]
          exact ih (o + 1) o _ (by omega) (by omega) (by omega)
        · have zt := hW to (by omega) (by omega)
          have t6 := zt.2.1
          have t7 := zt.2.2.1
          obtain ⟨b1, b2, b3, b4⟩ := hk to (by omega) (by omega)
          rw [if_neg c3, zb_Wor_fewest_22, c_row (by omega) (by omega) (by omega) (by omega), zK_i, zb_Wor_fewest_24, c_lineAt (by omega) (by omega)]
          show zD (true, q) (d + 1) zc_Wor_fewest (zat zc_Wor_fewest 27) _ ((13, W + 23 + 18 * to, 0) :: _) σ = _
          rw [zb_Wor_fewest_27, c_row (by omega) (by omega) (by omega) (by omega), zK_i, zb_Wor_fewest_28]
          by_cases c4 : g (10 + 265 * o + 7) + g (10 + 265 * o + 6) < g (10 + 265 * to + 7) + g (10 + 265 * to + 6)
          · rw [if_neg (by omega), if_pos ⟨c1, c2, Or.inr c4⟩, zb_Wor_fewest_29, zw_id (by omega) (by omega)]
            exact ih (o + 1) o _ (by omega) (by omega) (by omega)
          · rw [if_pos (by omega), if_neg (fun z => by omega), zb_Wor_fewest_31, zw_id (by omega) (by omega)]
            exact ih (o + 1) to _ (by omega) (by omega) (by omega)
      · rw [if_pos (by omega), if_neg (fun z => c2 z.2.1), zb_Wor_fewest_31, zw_id (by omega) (by omega)]
        exact ih (o + 1) to _ (by omega) (by omega) (by omega)
theorem c_fewest {q : Int × (Int → Int)} {d : Nat} {σ : zS} {W l : Int} {g : Int → Int} (h4 : σ.1 W 4 = g 3) (h0 : 0 ≤ g 3) (hm : g 3 ≤ 4) (hW : zWL σ.1 W g) (hk : ∀ o, 0 ≤ o → o < g 3 → 0 ≤ g (10 + 265 * o + 7) ∧ g (10 + 265 * o + 7) ≤ 8 ∧ 0 ≤ g (10 + 265 * o + 6) ∧ g (10 + 265 * o + 6) ≤ 96) : zM (true, q) (d + 1) 129 [(18, W, 0), (0, l, 0)] σ = some ((0, rOth g l, 0), σ) := by
  rw [ze_Wor_fewest, zb_Wor_fewest_0]
  exact l_few h4 hm hW hk (g 3).toNat 0 (-1) _ (by decide) (by omega) (Or.inl rfl)
theorem rOthS_congr {g h : Int → Int} {l : Int} (e : ∀ o j, o ≠ l → 0 ≤ j → j < 8 → g (10 + 265 * o + j) = h (10 + 265 * o + j)) : ∀ (n : Nat) (o to : Int), to ≠ l → rOthS g l n o to = rOthS h l n o to := by
  intro n
  induction n with
  | zero => intro o to _; rfl
  | succ n ih =>
    intro o to ht
    show rOthS g l n (o + 1) (if rBet g l o to = true then o else to) = rOthS h l n (o + 1) (if rBet h l o to = true then o else to)
    have eb : rBet g l o to = rBet h l o to := by
      unfold rBet
      by_cases c : o = l
      · rw [decide_eq_false (fun z => z.1 c), decide_eq_false (fun z => z.1 c)]
      · rw [e o 0 c (by decide) (by decide), e o 7 c (by decide) (by decide), e o 6 c (by decide) (by decide), e to 7 ht (by decide) (by decide), e to 6 ht (by decide) (by decide)]
    rw [eb]
    apply ih
    split
    · rename_i hb
      intro z
      unfold rBet at hb
      exact (of_decide_eq_true hb).1 z
    · exact ht
/-- a unit behind a queue -/
def gQa (g : Int → Int) (B s len : Int) : Int → Int := zup1 (zup1 (zup1 g (B + (73 + 2 * g (B + 6))) s) (B + (73 + 2 * g (B + 6) + 1)) len) (B + 6) (g (B + 6) + 1)
theorem zLC_qa {n : Int} {f : Int → Int → Int} {b : Int} {g : Int → Int} {B s len : Int} (n4 : n ≤ 4) (hk : 0 ≤ g (B + 7) ∧ g (B + 7) ≤ 8) (hp : g (B + 2) ≤ 4) (q0 : 0 ≤ g (B + 6)) (h : zLC n f b g B) : zLC n (zup (zup (zup f (b + 2) (g (B + 6)) s) (b + 3) (g (B + 6)) len) (b + 1) 4 (g (B + 6) + 1)) b (gQa g B s len) B := by
  obtain ⟨h1, h2, h3, h4, h5, h6, h7⟩ := h
  have e : ∀ j, j < 73 → j ≠ 6 → gQa g B s len (B + j) = g (B + j) := fun j _ _ => by
    unfold gQa
    rw [zup1_ne (by omega), zup1_ne (by omega), zup1_ne (by omega)]
  have e6 : gQa g B s len (B + 6) = g (B + 6) + 1 := zup1_eq rfl
  refine ⟨fun c c0 c1 => ?_, ?_, ?_, fun k c k0 k1 c0 c1 => ?_, fun k c k0 k1 c0 c1 => ?_, fun k k0 k1 => ?_, fun k k0 k1 => ?_⟩
  · rw [e _ (by unfold zfm; split <;> omega) (by unfold zfm; split <;> omega), ← h1 c c0 c1]
    simp (disch := omega) only [zup_na]
  · rw [e6, zupE rfl rfl]
  · rw [e _ (by omega) (by omega), ← h3]
    simp (disch := omega) only [zup_na]
  · rw [e 7 (by omega) (by omega)] at k1
    rw [e _ (by omega) (by omega), ← h4 k c k0 k1 c0 c1]
    simp (disch := omega) only [zup_na]
  · rw [e6] at k1
    by_cases ck : k = g (B + 6)
    · subst ck
      unfold gQa
      rcases (by omega : c = 0 ∨ c = 1) with rfl | rfl
      · rw [zup1_ne (by omega), zup1_ne (by omega), zup1_eq (by omega), zup_na (by omega), zup_na (by omega), zupE (by omega) rfl]
      · rw [zup1_ne (by omega), zup1_eq (by omega), zup_na (by omega), zupE (by omega) rfl]
    · have eg : gQa g B s len (B + (73 + 2 * k + c)) = g (B + (73 + 2 * k + c)) := by
        unfold gQa
        rw [zup1_ne (by omega), zup1_ne (by omega), zup1_ne (by omega)]
      rw [eg, ← h5 k c k0 (by omega) c0 c1, zup_na (by omega), zup_nka (by omega), zup_nka (by omega)]
  · rw [e _ (by omega) (by omega), e _ (by omega) (by omega), e _ (by omega) (by omega), e _ (by omega) (by omega), e _ (by omega) (by omega)]
    simp (disch := omega) only [zup_na]
    exact h6 k k0 k1
  · rw [e 2 (by omega) (by omega)] at k1
    rw [e _ (by omega) (by omega), ← h7 k k0 k1]
    simp (disch := omega) only [zup_na]
theorem c_addQ {q : Int × (Int → Int)} {d : Nat} {σ : zS} {n b : Int} {g : Int → Int} {B s len num : Int} (n4 : n ≤ 4) (hk : 0 ≤ g (B + 7) ∧ g (B + 7) ≤ 8) (hp : g (B + 2) ≤ 4) (q0 : 0 ≤ g (B + 6)) (q9 : g (B + 6) < 96) (h : zLC n σ.1 b g B) : ∃ f2, zM (true, q) (d + 1) 50 [(16, b + 1, 96), (0, s, 0), (0, len, 0), (0, num, 0)] σ = some ((0, 1, 0), (f2, σ.2)) ∧ zLC n f2 b (gQa g B s len) B ∧ zFb b σ.1 f2 := by
  have k2 := h.2.1
  have e96 := zNL96
  refine ⟨_, ?_, zLC_qa (s := s) (len := len) n4 hk hp q0 h, zFb_trans (zFb_up (by omega)) (zFb_trans (zFb_up (by omega)) (zFb_up (by omega)))⟩
  rw [ze_Uni_add, zb_Uni_add_0, if_neg (by first | omega | (simp (disch := omega) only [zupE, zup_nk, zup_na, zcpy_na]; omega)), zb_Uni_add_3, if_pos (by first | omega | (simp (disch := omega) only [zupE, zup_nk, zup_na, zcpy_na]; omega)), zb_Uni_add_11]
  try simp (disch := omega) only [Int.reduceAdd, Int.add_assoc, Int.zero_add]
  rw [s_put (by first | omega | (simp (disch := omega) only [zup_na]; omega)) (by first | omega | (simp (disch := omega) only [zup_na]; omega)), zK_v, zb_Uni_add_17]
  try simp (disch := omega) only [Int.reduceAdd, Int.add_assoc, Int.zero_add]
  rw [s_put (by first | omega | (simp (disch := omega) only [zup_na]; omega)) (by first | omega | (simp (disch := omega) only [zup_na]; omega)), zK_v, zb_Uni_add_23]
  try simp (disch := omega) only [Int.reduceAdd, Int.add_assoc, Int.zero_add, zNL8, zNL96]
  rw [s_put0 (by first | omega | (simp (disch := omega) only [zup_na]; omega)), zK_v, zb_Uni_add_29]
  try simp (disch := omega) only [Int.reduceAdd, Int.add_assoc, Int.zero_add, zNL8, zNL96]
  rw [s_put0 (by first | omega | (simp (disch := omega) only [zup_na]; omega)), zK_v, zb_Uni_add_35]
  try simp (disch := omega) only [zw_id]
  rw [zG2 (by omega) (by omega)]
  try simp (disch := omega) only [zw_id]
  simp (disch := omega) only [zup_na, zw_id, k2]
theorem c_addF {q : Int × (Int → Int)} {d : Nat} {σ : zS} {b s len num : Int} (q9 : σ.1 (b + 1) 4 = 96) : zM (true, q) (d + 1) 50 [(16, b + 1, 96), (0, s, 0), (0, len, 0), (0, num, 0)] σ = some ((0, 0, 0), σ) := by
  rw [ze_Uni_add, zb_Uni_add_0, if_neg (by first | omega | (simp (disch := omega) only [zupE, zup_nk, zup_na, zcpy_na]; omega)), zb_Uni_add_3, if_neg (by first | omega | (simp (disch := omega) only [zupE, zup_nk, zup_na, zcpy_na]; omega)), zb_Uni_add_9, zG2 (by omega) (by omega)]
/-- all units of another row behind a queue, from the k0-th place of a list on -/
theorem l_addAll {q : Int × (Int → Int)} {d : Nat} {n b u y m k0 : Int} {F : Int → Int → Int} {H ov : Int → Int} {B : Int} {t : (Int → Int) × Nat × Nat × Nat × (Int → Int → Bool)} (n4 : n ≤ 4) (hk : 0 ≤ H (B + 7) ∧ H (B + 7) ≤ 8) (hp : H (B + 2) ≤ 4) (q0 : 0 ≤ H (B + 6)) (k00 : 0 ≤ k0) (hq : H (B + 6) + k0 ≤ 96) (hu : u + 3 ≤ b ∨ b + 18 ≤ u) (m0 : 0 ≤ m) (hm : m ≤ y) (y9 : y ≤ 96) (hF4 : F u 4 = m) (hs : ∀ i, 0 ≤ i → i < m → i < 96 - H (B + 6) - k0 → F (u + 1) i = ov (2 * (k0 + i)) ∧ F (u + 2) i = ov (2 * (k0 + i) + 1)) : ∀ (k : Nat) (i : Int) (f : Int → Int → Int), 0 ≤ i → i + k = m → zFb b F f → zLC n f b (rApp H B ov (k0 + (if i ≤ 96 - H (B + 6) - k0 then i else 96 - H (B + 6) - k0))) B → ∃ f2, zD (true, q) (d + 2) zc_Uni_addAll (zat zc_Uni_addAll 4) [(16, b + 1, 96), (16, u, y), (0, if i ≤ 96 - H (B + 6) - k0 then i else 96 - H (B + 6) - k0, 0), (0, i, 0)] [] (f, t) = some ((0, if m ≤ 96 - H (B + 6) - k0 then m else 96 - H (B + 6) - k0, 0), (f2, t)) ∧ zLC n f2 b (rApp H B ov (k0 + (if m ≤ 96 - H (B + 6) - k0 then m else 96 - H (B + 6) - k0))) B ∧ zFb b F f2 := by
  intro k
  induction k with
  | zero =>
    intro i f i0 im fr h
    have e4 : f u 4 = m := (fr u 4 (by omega)).trans hF4
    obtain rfl : i = m := by omega
    exact ⟨f, by rw [zb_Uni_addAll_4, if_pos (show f u 4 ≤ i by omega), zb_Uni_addAll_23], h, fr⟩
  | succ k ih =>
    intro i f i0 im fr h
    have e4 : f u 4 = m := (fr u 4 (by omega)).trans hF4
    rw [zb_Uni_addAll_4, if_neg (show ¬f u 4 ≤ i by omega), zb_Uni_addAll_8, s_at (by omega) (by omega), zK_i, zb_Uni_addAll_13, s_at (by omega) (by omega), zK_i]
    show ∃ f2, zD (true, q) (d + 1 + 1) zc_Uni_addAll (zat zc_Uni_addAll 17) _ [(0, f (u + 2) i, 0), (0, f (u + 1) i, 0), (16, b + 1, 96)] (f, t) = _ ∧ _
    rw [zb_Uni_addAll_17]
    have o7 : ∀ kk, 0 ≤ kk → rApp H B ov kk (B + 7) = H (B + 7) := fun kk _ => rApp_out (by omega) (by omega)
    have o2 : ∀ kk, 0 ≤ kk → rApp H B ov kk (B + 2) = H (B + 2) := fun kk _ => rApp_out (by omega) (by omega)
    by_cases c : i < 96 - H (B + 6) - k0
    · have ei : (if i ≤ 96 - H (B + 6) - k0 then i else 96 - H (B + 6) - k0) = i := if_pos (by omega)
      have ei1 : (if i + 1 ≤ 96 - H (B + 6) - k0 then i + 1 else 96 - H (B + 6) - k0) = i + 1 := if_pos (by omega)
      have e1 : f (u + 1) i = ov (2 * (k0 + i)) := (fr _ _ (by omega)).trans (hs i i0 (by omega) c).1
      have e2 : f (u + 2) i = ov (2 * (k0 + i) + 1) := (fr _ _ (by omega)).trans (hs i i0 (by omega) c).2
      rw [e1, e2]
      rw [ei] at h ⊢
      have e6 : rApp H B ov (k0 + i) (B + 6) = H (B + 6) + (k0 + i) := rApp_6 q0
      obtain ⟨f2, r2, h2, fr2⟩ := c_addQ (q := q) (d := d) (σ := (f, t)) (s := ov (2 * (k0 + i))) (len := ov (2 * (k0 + i) + 1)) (num := -1) n4 (by rw [o7 _ (by omega)]; exact hk) (by rw [o2 _ (by omega)]; exact hp) (by omega) (by omega) h
      have es : gQa (rApp H B ov (k0 + i)) B (ov (2 * (k0 + i))) (ov (2 * (k0 + i) + 1)) = rApp H B ov (k0 + (i + 1)) := by
        unfold gQa
        rw [e6, ← Int.add_assoc k0 i 1]
        have := rApp_s (g := H) (B := B) (k := k0 + i) (ov := ov) (by omega) q0
        rw [← this]
      rw [es] at h2
      rw [r2, zK_i, zb_Uni_addAll_19, if_neg (by decide), zb_Uni_addAll_20, zw_id (by omega) (by omega)]
      obtain ⟨f3, r3, h3, fr3⟩ := ih (i + 1) f2 (by omega) (by omega) (zFb_trans fr fr2) (by rw [ei1]; exact h2)
      rw [ei1] at r3
      exact ⟨f3, r3, h3, fr3⟩
    · have ei : (if i ≤ 96 - H (B + 6) - k0 then i else 96 - H (B + 6) - k0) = 96 - H (B + 6) - k0 := by split <;> omega
      have ei1 : (if i + 1 ≤ 96 - H (B + 6) - k0 then i + 1 else 96 - H (B + 6) - k0) = 96 - H (B + 6) - k0 := if_neg (by omega)
      rw [ei] at h ⊢
      have e6 : rApp H B ov (k0 + (96 - H (B + 6) - k0)) (B + 6) = H (B + 6) + (k0 + (96 - H (B + 6) - k0)) := rApp_6 q0
      have s6 := h.2.1
      rw [c_addF (σ := (f, t)) (by show f (b + 1) 4 = 96; omega), zK_i, zb_Uni_addAll_19, if_pos rfl, zb_Uni_addAll_21, zw_id (by omega) (by omega)]
      obtain ⟨f3, r3, h3, fr3⟩ := ih (i + 1) f (by omega) (by omega) fr (by rw [ei1]; exact h)
      rw [ei1] at r3
      exact ⟨f3, r3, h3, fr3⟩
theorem c_addAll {q : Int × (Int → Int)} {d : Nat} {σ : zS} {n b u y m k0 : Int} {H ov : Int → Int} {B : Int} (n4 : n ≤ 4) (hk : 0 ≤ H (B + 7) ∧ H (B + 7) ≤ 8) (hp : H (B + 2) ≤ 4) (q0 : 0 ≤ H (B + 6)) (k00 : 0 ≤ k0) (hq : H (B + 6) + k0 ≤ 96) (hu : u + 3 ≤ b ∨ b + 18 ≤ u) (m0 : 0 ≤ m) (hm : m ≤ y) (y9 : y ≤ 96) (hF4 : σ.1 u 4 = m) (hs : ∀ i, 0 ≤ i → i < m → i < 96 - H (B + 6) - k0 → σ.1 (u + 1) i = ov (2 * (k0 + i)) ∧ σ.1 (u + 2) i = ov (2 * (k0 + i) + 1)) (h : zLC n σ.1 b (rApp H B ov k0) B) : ∃ f2, zM (true, q) (d + 2) 132 [(16, b + 1, 96), (16, u, y)] σ = some ((0, if m ≤ 96 - H (B + 6) - k0 then m else 96 - H (B + 6) - k0, 0), (f2, σ.2)) ∧ zLC n f2 b (rApp H B ov (k0 + (if m ≤ 96 - H (B + 6) - k0 then m else 96 - H (B + 6) - k0))) B ∧ zFb b σ.1 f2 := by
  have e0 : (if (0 : Int) ≤ 96 - H (B + 6) - k0 then (0 : Int) else 96 - H (B + 6) - k0) = 0 := if_pos (by omega)
  obtain ⟨f2, r, x⟩ := l_addAll (q := q) (d := d) (t := σ.2) (F := σ.1) n4 hk hp q0 k00 hq hu m0 hm y9 hF4 hs m.toNat 0 σ.1 (by decide) (by omega) zFb_refl (by rw [e0, Int.add_zero]; exact h)
  rw [e0] at r
  exact ⟨f2, by rw [ze_Uni_addAll, zb_Uni_addAll_0]; exact r, x⟩
/-! ### ahead of a queue -/
theorem l_putAhead {q : Int × (Int → Int)} {d : Nat} {b m q0 : Int} {F : Int → Int → Int} {t : (Int → Int) × Nat × Nat × Nat × (Int → Int → Bool)} (m0 : 0 ≤ m) (m8 : m ≤ 8) (q00 : 0 ≤ q0) (q09 : q0 ≤ 96) : ∀ (k : Nat) (j : Int) (f : Int → Int → Int), 0 ≤ j → j + k = m → (∀ p, 0 ≤ p → p < 96 → f (b + 2) p = (if p < j then F (b + 7) (m - j + p) else F (b + 2) (p - j)) ∧ f (b + 3) p = (if p < j then F (b + 8) (m - j + p) else F (b + 3) (p - j))) → f (b + 1) 4 = (if q0 + j ≤ 96 then q0 + j else 96) → (∀ o p, o ≠ b + 2 → o ≠ b + 3 → (o ≠ b + 1 ∨ p ≠ 4) → f o p = F o p) → ∃ f2, zD (true, q) (d + 1) zc_Uni_putAhead (zat zc_Uni_putAhead 5) [(16, b + 1, 96), (16, b + 6, 8), (0, m - 1 - j, 0)] [] (f, t) = some ((9, 0, 0), (f2, t)) ∧ (∀ p, 0 ≤ p → p < 96 → f2 (b + 2) p = (if p < m then F (b + 7) p else F (b + 2) (p - m)) ∧ f2 (b + 3) p = (if p < m then F (b + 8) p else F (b + 3) (p - m))) ∧ f2 (b + 1) 4 = (if q0 + m ≤ 96 then q0 + m else 96) ∧ (∀ o p, o ≠ b + 2 → o ≠ b + 3 → (o ≠ b + 1 ∨ p ≠ 4) → f2 o p = F o p) := by
  intro k
  induction k with
  | zero =>
    intro j f j0 jm hr h4 fr
    obtain rfl : j = m := by omega
    refine ⟨f, by rw [zb_Uni_putAhead_5, if_pos (by omega), zb_Uni_putAhead_46], fun p p0 p9 => ?_, h4, fr⟩
    have := hr p p0 p9
    rw [Int.sub_self, Int.zero_add] at this
    exact this
  | succ k ih =>
    intro j f j0 jm hr h4 fr
    have u7 : f (b + 7) (m - 1 - j) = F (b + 7) (m - 1 - j) := fr _ _ (by omega) (by omega) (by omega)
    have u8 : f (b + 8) (m - 1 - j) = F (b + 8) (m - 1 - j) := fr _ _ (by omega) (by omega) (by omega)
    have run : zD (true, q) (d + 1) zc_Uni_putAhead (zat zc_Uni_putAhead 5) [(16, b + 1, 96), (16, b + 6, 8), (0, m - 1 - j, 0)] [] (f, t) = zD (true, q) (d + 1) zc_Uni_putAhead (zat zc_Uni_putAhead 29) [(16, b + 1, 96), (16, b + 6, 8), (0, m - 1 - j, 0)] [] (zup (zup (zcpy (zcpy f (b + 2) 0 (b + 2) 1 95) (b + 3) 0 (b + 3) 1 95) (b + 2) 0 (F (b + 7) (m - 1 - j))) (b + 3) 0 (F (b + 8) (m - 1 - j)), t) := by
      rw [zb_Uni_putAhead_5, if_neg (by omega), zb_Uni_putAhead_7]
      try simp (disch := omega) only [Int.reduceAdd, Int.add_assoc, Int.zero_add]
      rw [s_openRow (by omega) (by omega), zK_v, zb_Uni_putAhead_10]
      try simp (disch := omega) only [Int.reduceAdd, Int.add_assoc, Int.zero_add]
      rw [s_openRow (by omega) (by omega), zK_v, zb_Uni_putAhead_13]
      try simp (disch := omega) only [Int.reduceAdd, Int.add_assoc, Int.zero_add]
      rw [s_at (by omega) (by omega), zK_i, zb_Uni_putAhead_20, s_put (by omega) (by omega), zK_v, zb_Uni_putAhead_21]
      try simp (disch := omega) only [Int.reduceAdd, Int.add_assoc, Int.zero_add]
      rw [s_at (by omega) (by omega), zK_i, zb_Uni_putAhead_28, s_put (by omega) (by omega), zK_v]
      simp (disch := omega) only [zcpy_na, zup_na, Int.reduceSub, u7, u8]
    have fin : ∀ v4, v4 = (if q0 + (j + 1) ≤ 96 then q0 + (j + 1) else 96) → ∃ f2, zD (true, q) (d + 1) zc_Uni_putAhead (zat zc_Uni_putAhead 5) [(16, b + 1, 96), (16, b + 6, 8), (0, m - 1 - (j + 1), 0)] [] (zup (zup (zup (zcpy (zcpy f (b + 2) 0 (b + 2) 1 95) (b + 3) 0 (b + 3) 1 95) (b + 2) 0 (F (b + 7) (m - 1 - j))) (b + 3) 0 (F (b + 8) (m - 1 - j))) (b + 1) 4 v4, t) = some ((9, 0, 0), (f2, t)) ∧ (∀ p, 0 ≤ p → p < 96 → f2 (b + 2) p = (if p < m then F (b + 7) p else F (b + 2) (p - m)) ∧ f2 (b + 3) p = (if p < m then F (b + 8) p else F (b + 3) (p - m))) ∧ f2 (b + 1) 4 = (if q0 + m ≤ 96 then q0 + m else 96) ∧ (∀ o p, o ≠ b + 2 → o ≠ b + 3 → (o ≠ b + 1 ∨ p ≠ 4) → f2 o p = F o p) := by
      intro v4 hv4
      refine ih (j + 1) _ (by omega) (by omega) (fun p p0 p9 => ?_) (by rw [zupE rfl rfl]; exact hv4) (fun o p o1 o2 o3 => ?_)
      · rw [zup_na (by omega), zup_na (by omega), zup_na (show b + 3 ≠ b + 1 by omega)]
        by_cases c : p = 0
        · subst c
          rw [zupE rfl rfl, zupE rfl rfl, if_pos (by omega), if_pos (by omega), show m - (j + 1) + 0 = m - 1 - j by omega]
          exact ⟨rfl, rfl⟩
        · have hh := hr (p - 1) (by omega) (by omega)
          rw [zup_nk c, zup_nk c, zup_na (by omega), zcpy_na (by omega), zcpy_in rfl (by omega) (by omega), zcpy_in rfl (by omega) (by omega), zcpy_na (by omega), show 0 + (p - 1) = p - 1 by omega, hh.1, hh.2]
          by_cases cp : p - 1 < j
          · rw [if_pos cp, if_pos cp, if_pos (by omega), if_pos (by omega), show m - j + (p - 1) = m - (j + 1) + p by omega]
            exact ⟨rfl, rfl⟩
          · rw [if_neg cp, if_neg cp, if_neg (by omega), if_neg (by omega), show p - 1 - j = p - (j + 1) by omega]
            exact ⟨rfl, rfl⟩
      · rw [zup_nka (by omega), zup_na o2, zup_na o1, zcpy_na o2, zcpy_na o1]
        exact fr o p o1 o2 o3
    have f4 : zup (zup (zcpy (zcpy f (b + 2) 0 (b + 2) 1 95) (b + 3) 0 (b + 3) 1 95) (b + 2) 0 (F (b + 7) (m - 1 - j))) (b + 3) 0 (F (b + 8) (m - 1 - j)) (b + 1) 4 = f (b + 1) 4 := by
      rw [zup_na (by omega), zup_na (by omega), zcpy_na (by omega), zcpy_na (by omega)]
    rw [run, zb_Uni_putAhead_29]
    by_cases c : 96 ≤ f (b + 1) 4
    · rw [if_pos (show 96 ≤ zup (zup (zcpy (zcpy f (b + 2) 0 (b + 2) 1 95) (b + 3) 0 (b + 3) 1 95) (b + 2) 0 (F (b + 7) (m - 1 - j))) (b + 3) 0 (F (b + 8) (m - 1 - j)) (b + 1) 4 by rw [f4]; exact c), zb_Uni_putAhead_41, zw_id (by omega) (by omega), show m - 1 - j + -1 = m - 1 - (j + 1) by omega]
      refine fin _ ?_
      show zup (zup (zcpy (zcpy f (b + 2) 0 (b + 2) 1 95) (b + 3) 0 (b + 3) 1 95) (b + 2) 0 (F (b + 7) (m - 1 - j))) (b + 3) 0 (F (b + 8) (m - 1 - j)) (b + 1) 4 = _
      rw [f4]
      split at h4 <;> split <;> omega
    · rw [if_neg (show ¬96 ≤ zup (zup (zcpy (zcpy f (b + 2) 0 (b + 2) 1 95) (b + 3) 0 (b + 3) 1 95) (b + 2) 0 (F (b + 7) (m - 1 - j))) (b + 3) 0 (F (b + 8) (m - 1 - j)) (b + 1) 4 by rw [f4]; exact c), zb_Uni_putAhead_36, zw_id (show -2147483648 ≤ m - 1 - j + -1 by omega) (by omega), show m - 1 - j + -1 = m - 1 - (j + 1) by omega]
      refine fin _ ?_
      show zw (zup (zup (zcpy (zcpy f (b + 2) 0 (b + 2) 1 95) (b + 3) 0 (b + 3) 1 95) (b + 2) 0 (F (b + 7) (m - 1 - j))) (b + 3) 0 (F (b + 8) (m - 1 - j)) (b + 1) 4 + 1) = _
      rw [f4, zw_id (by split at h4 <;> omega) (by split at h4 <;> omega)]
      split at h4 <;> split <;> omega
