/-! ## the class takes a text apart -/
theorem c_kindOf {q : Int × (Int → Int)} {d : Nat} {σ : zS} {x : Int} : zM (true, q) d 23 [(0, x, 0)] σ = some ((0, txK x, 0), σ) := by
  rw [ze_Tex_kindOf, zb_Tex_kindOf_0]
  unfold txK
  by_cases c1 : 97 ≤ x ∧ x ≤ 122
  · rw [if_pos c1, if_neg (by omega), zb_Tex_kindOf_3, if_neg (by omega), zb_Tex_kindOf_6]
  · rw [if_neg c1]
    have e : zD (true, q) d zc_Tex_kindOf (zat zc_Tex_kindOf 8) [(0, x, 0)] [] σ = some ((0, if 48 ≤ x ∧ x ≤ 57 then 2 else 0, 0), σ) := by
      rw [zb_Tex_kindOf_8]
      by_cases c2 : 48 ≤ x ∧ x ≤ 57
      · rw [if_pos c2, if_neg (by omega), zb_Tex_kindOf_11, if_neg (by omega), zb_Tex_kindOf_14]
      · rw [if_neg c2]
        by_cases c3 : x < 48
        · rw [if_pos c3, zb_Tex_kindOf_16]
        · rw [if_neg c3, zb_Tex_kindOf_11, if_pos (by omega), zb_Tex_kindOf_16]
    by_cases c4 : x < 97
    · rw [if_pos c4]
      exact e
    · rw [if_neg c4, zb_Tex_kindOf_3, if_pos (by omega)]
      exact e
theorem l_endOf {q : Int × (Int → Int)} {d : Nat} {σ : zS} {r y n p kd : Int} {u : Int → Int} (hn : n ≤ y) (hu : ∀ i, 0 ≤ i → i < n → σ.1 r i = u i) (ny : n < 100000) (hk : kd ≠ 0) : ∀ (k : Nat) (i : Int), 0 ≤ i → i + k = n → zD (true, q) (d + 1) zc_Tex_endOf (zat zc_Tex_endOf 9) [(30, r, y), (0, p, 0), (0, n, 0), (0, i, 0), (0, kd, 0)] [] σ = some ((0, txR u kd k i, 0), σ) := by
  intro k
  induction k with
  | zero =>
    intro i i0 hi
    rw [zb_Tex_endOf_9, if_neg hk, zb_Tex_endOf_11, if_pos (by omega), zb_Tex_endOf_22]
    rfl
  | succ k ih =>
    intro i i0 hi
    rw [zb_Tex_endOf_9, if_neg hk, zb_Tex_endOf_11, if_neg (by omega), zb_Tex_endOf_14, s_at i0 (by omega), zK_i, zb_Tex_endOf_17, hu i i0 (by omega), c_kindOf, zK_i, zb_Tex_endOf_18]
    show _ = some ((0, if txK (u i) = kd then txR u kd k (i + 1) else i, 0), σ)
    by_cases c : txK (u i) = kd
    · rw [if_neg (by omega), zb_Tex_endOf_20, zw_id (by omega) (by omega), if_pos c]
      exact ih (i + 1) (by omega) (by omega)
    · rw [if_pos c, if_neg c, zb_Tex_endOf_22]
theorem c_endOf {q : Int × (Int → Int)} {d : Nat} {σ : zS} {r y n p : Int} {u : Int → Int} (hn : n ≤ y) (hu : ∀ i, 0 ≤ i → i < n → σ.1 r i = u i) (ny : n < 100000) (p0 : 0 ≤ p) (p1 : p < n) : zM (true, q) (d + 1) 24 [(30, r, y), (0, p, 0), (0, n, 0)] σ = some ((0, txE u n p, 0), σ) := by
  rw [ze_Tex_endOf, zb_Tex_endOf_0, s_at p0 (by omega), zK_i, zb_Tex_endOf_7, hu p p0 p1, c_kindOf, zK_i, zb_Tex_endOf_8, zw_id (by omega) (by omega)]
  unfold txE
  by_cases c : txK (u p) = 0
  · rw [if_pos c, zb_Tex_endOf_9, if_pos c, zb_Tex_endOf_22]
  · rw [if_neg c]
    exact l_endOf hn hu ny c _ (p + 1) (by omega) (by omega)
theorem l_isWritten {q : Int × (Int → Int)} {d : Nat} {σ : zS} {r y n p e k : Int} {u : Int → Int} (hn : n ≤ y) (hu : ∀ i, 0 ≤ i → i < n → σ.1 r i = u i) (ny : n < 100000) (p0 : 0 ≤ p) (he : e ≤ n) (k0 : 0 ≤ k) (k1 : k < 31) (hl : ((zTx k).length : Int) = e - p) : ∀ (l pre : List Int), zTx k = pre ++ l → zD (true, q) (d + 4) zc_Tex_isWritten (zat zc_Tex_isWritten 10) [(6, k, 0), (30, r, y), (0, p, 0), (0, e, 0), (0, pre.length, 0)] [] σ = some ((0, if txMS u l (p + pre.length) = true then 1 else 0, 0), σ) := by
  intro l
  induction l with
  | nil =>
    intro pre hp
    rw [List.append_nil] at hp
    rw [zb_Tex_isWritten_10, k_length (d := d + 2) k0 k1, zK_i, zb_Tex_isWritten_13, if_pos (by rw [hp]; exact Int.le_refl _), zb_Tex_isWritten_27, zG2 (by decide) (by decide)]
    rfl
  | cons c l ih =>
    intro pre hp
    have hlen : (zTx k).length = pre.length + (l.length + 1) := by rw [hp]; simp
    have hc : (zTx k).getD ((pre.length : Int)).toNat 0 = c := by
      rw [hp]
      simp
    rw [zb_Tex_isWritten_10, k_length (d := d + 2) k0 k1, zK_i, zb_Tex_isWritten_13, if_neg (by omega), zb_Tex_isWritten_14, k_charAt k0 k1 (by omega) (by omega), zK_i, hc, zb_Tex_isWritten_17, zw_id (by omega) (by omega), s_at (by omega) (by omega), zK_i, zb_Tex_isWritten_22, hu _ (by omega) (by omega)]
    show _ = some ((0, if (if c = u (p + pre.length) then txMS u l (p + pre.length + 1) else false) = true then 1 else 0, 0), σ)
    by_cases hcu : c = u (p + pre.length)
    · rw [if_pos hcu, if_pos hcu, zb_Tex_isWritten_25, zw_id (by omega) (by omega)]
      have := ih (pre ++ [c]) (by rw [hp]; simp)
      rw [show (((pre ++ [c]).length : Nat) : Int) = (pre.length : Int) + 1 by simp] at this
      rw [this, show p + ((pre.length : Int) + 1) = p + pre.length + 1 by omega]
    · rw [if_neg hcu, if_neg hcu, zb_Tex_isWritten_23, zG2 (by decide) (by decide), if_neg (by decide)]
theorem c_isWritten {q : Int × (Int → Int)} {d : Nat} {σ : zS} {r y n p e k : Int} {u : Int → Int} (hn : n ≤ y) (hu : ∀ i, 0 ≤ i → i < n → σ.1 r i = u i) (ny : n < 100000) (p0 : 0 ≤ p) (hpe : p ≤ e) (he : e ≤ n) (k0 : 0 ≤ k) (k1 : k < 31) : zM (true, q) (d + 4) 32 [(6, k, 0), (30, r, y), (0, p, 0), (0, e, 0)] σ = some ((0, if txM u k p e = true then 1 else 0, 0), σ) := by
  rw [ze_Tex_isWritten, zb_Tex_isWritten_0, k_length (d := d + 2) k0 k1, zK_i, zb_Tex_isWritten_2, zw_id (by omega) (by omega)]
  unfold txM
  by_cases c : ((zTx k).length : Int) = e - p
  · rw [if_pos c, if_pos c, zb_Tex_isWritten_8]
    have := l_isWritten (q := q) (d := d) hn hu ny p0 he k0 k1 c (zTx k) [] rfl
    rw [show (([] : List Int).length : Int) = 0 from rfl, Int.add_zero] at this
    exact this
  · rw [if_neg c, if_neg c, zb_Tex_isWritten_6, zG2 (by decide) (by decide), if_neg (by decide)]
theorem zWtx_rng : ∀ i : Nat, i < 33 → 0 ≤ zWtx (i : Int) ∧ zWtx (i : Int) < 31 := by decide
theorem l_wordOf {q : Int × (Int → Int)} {d : Nat} {σ : zS} {r y n p e : Int} {u : Int → Int} (hn : n ≤ y) (hu : ∀ i, 0 ≤ i → i < n → σ.1 r i = u i) (ny : n < 100000) (p0 : 0 ≤ p) (hpe : p ≤ e) (he : e ≤ n) : ∀ (k : Nat) (i : Int) (v : zV), 0 ≤ i → i + k = 33 → zD (true, q) (d + 5) zc_Tex_wordOf (zat zc_Tex_wordOf 2) [(30, r, y), (0, p, 0), (0, e, 0), (0, i, 0), v] [] σ = some ((5, zfst (fun i => txM u (zWtx i) p e) 1 k i, 0), σ) := by
  intro k
  induction k with
  | zero =>
    intro i v i0 hi
    rw [zb_Tex_wordOf_2, if_pos (by omega), zb_Tex_wordOf_23]
    rfl
  | succ k ih =>
    intro i v i0 hi
    have hw := zWtx_rng i.toNat (by omega)
    rw [show ((i.toNat : Nat) : Int) = i by omega] at hw
    rw [zb_Tex_wordOf_2, if_neg (by omega), zb_Tex_wordOf_6, zG2 i0 (by omega), zb_Tex_wordOf_9, if_neg (by omega), zb_Tex_wordOf_12, zG2 i0 (by omega), zb_Tex_wordOf_14, c_isWritten hn hu ny p0 hpe he hw.1 hw.2, zK_i, zb_Tex_wordOf_18]
    cases hm : txM u (zWtx i) p e with
    | true =>
      rw [if_pos rfl, if_neg (by decide), zb_Tex_wordOf_19, zfst_hit (p := fun i => txM u (zWtx i) p e) hm]
    | false =>
      rw [if_neg Bool.false_ne_true, if_pos rfl, zb_Tex_wordOf_21, zw_id (by omega) (by omega), zfst_miss (p := fun i => txM u (zWtx i) p e) hm]
      exact ih (i + 1) _ (by omega) (by omega)
theorem c_wordOf {q : Int × (Int → Int)} {d : Nat} {σ : zS} {r y n p e : Int} {u : Int → Int} (hn : n ≤ y) (hu : ∀ i, 0 ≤ i → i < n → σ.1 r i = u i) (ny : n < 100000) (p0 : 0 ≤ p) (hpe : p ≤ e) (he : e ≤ n) : zM (true, q) (d + 5) 33 [(30, r, y), (0, p, 0), (0, e, 0)] σ = some ((5, zfst (fun i => txM u (zWtx i) p e) 1 33 0, 0), σ) := by
  rw [ze_Tex_wordOf, zb_Tex_wordOf_0]
  exact l_wordOf hn hu ny p0 hpe he 33 0 _ (Int.le_refl 0) rfl
theorem l_digits {q : Int × (Int → Int)} {d : Nat} {σ : zS} {r y n p e T x : Int} {u : Int → Int} (hn : n ≤ y) (hu : ∀ i, 0 ≤ i → i < n → σ.1 r i = u i) (ny : n < 100000) (he : e ≤ n) : ∀ (k : Nat) (i v : Int), 0 ≤ i → i + k = e → k ≤ 3 → 0 ≤ v → v * 10 ^ k < 1000000 → (∀ j, i ≤ j → j < e → txK (u j) = 2) → ∃ v6, zD (true, q) (d + 1) zc_Tex_addThing (zat zc_Tex_addThing 27) [(15, T, 0), (30, r, y), (0, p, 0), (0, e, 0), (5, x, 0), (0, v, 0), (0, i, 0)] [] σ = zD (true, q) (d + 1) zc_Tex_addThing (zat zc_Tex_addThing 42) [(15, T, 0), (30, r, y), (0, p, 0), (0, e, 0), (5, x, 0), (0, txD u k i v, 0), v6] [] σ := by
  intro k
  induction k with
  | zero =>
    intro i v i0 hi k3 v0 v1 hd
    exact ⟨_, by rw [zb_Tex_addThing_27, if_pos (by omega)]; rfl⟩
  | succ k ih =>
    intro i v i0 hi k3 v0 v1 hd
    have hdi := txK2.mp (hd i (Int.le_refl i) (by omega))
    have hv : v < 100000 := by
      rcases (by omega : k = 0 ∨ k = 1 ∨ k = 2) with h | h | h <;> subst h <;> omega
    obtain ⟨v6, h6⟩ := ih (i + 1) (10 * v + u i - 48) (by omega) (by omega) (by omega) (by omega) (by rcases (by omega : k = 0 ∨ k = 1 ∨ k = 2) with h | h | h <;> subst h <;> omega) (fun j j0 j1 => hd j (by omega) j1)
    refine ⟨v6, ?_⟩
    rw [zb_Tex_addThing_27, if_neg (by omega), zb_Tex_addThing_30, s_at i0 (by omega), zK_i, zb_Tex_addThing_36, hu i i0 (by omega)]
    rw [zw_id (z := v * 10) (by omega) (by omega), zw_id (z := v * 10 + u i) (by omega) (by omega), zw_id (z := v * 10 + u i - 48) (by omega) (by omega), zw_id (z := i + 1) (by omega) (by omega), show v * 10 + u i - 48 = 10 * v + u i - 48 by omega]
    exact h6

