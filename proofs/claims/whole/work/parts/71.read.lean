/-! ## the reference reads a text -/
theorem zup_self {f : Int → Int → Int} {a k : Int} : zup f a k (f a k) = f := by
  funext b j
  by_cases c : b = a ∧ j = k
  · obtain ⟨rfl, rfl⟩ := c
    exact zupE rfl rfl
  · exact if_neg c
theorem zup_zup {f : Int → Int → Int} {a k v w : Int} : zup (zup f a k v) a k w = zup f a k w := by
  funext b j
  by_cases c : b = a ∧ j = k
  · rw [zupE c.1 c.2, zupE c.1 c.2]
  · exact (if_neg c).trans ((if_neg c).trans (if_neg c).symm)
def RT (f : Int → Int → Int) (g u : Int → Int) (n : Int) : Prop := 0 ≤ n ∧ n ≤ 400 ∧ f 1464 10 = n ∧ ((f 1464 9 = -1 ∧ ∀ k, 0 ≤ k → k < n → f 1469 k = u k) ∨ (f 1464 9 = 1310 ∧ ∀ k, 0 ≤ k → k < n → g (1310 + k) = u k))
theorem RT_up {f : Int → Int → Int} {g u : Int → Int} {n k v : Int} (hk : k ≠ 9 ∧ k ≠ 10) (h : RT f g u n) : RT (zup f 1464 k v) g u n := by
  obtain ⟨a, b, c, e⟩ := h
  refine ⟨a, b, by rw [zup_nk (by omega)]; exact c, ?_⟩
  rcases e with ⟨e1, e2⟩ | ⟨e1, e2⟩
  · exact Or.inl ⟨by rw [zup_nk (by omega)]; exact e1, fun k h1 h2 => by rw [zup_na (by decide)]; exact e2 k h1 h2⟩
  · exact Or.inr ⟨by rw [zup_nk (by omega)]; exact e1, e2⟩
theorem x_letter {q : Int × (Int → Int)} {d : Nat} {f : Int → Int → Int} {t : (Int → Int) × Nat × Nat × Nat × (Int → Int → Bool)} {g u : Int → Int} {n k : Int} (hR : RT f g u n) (k0 : 0 ≤ k) (k1 : k < n) : zM (true, q) d 60 [(20, 1464, 0), (0, k, 0)] (zrow f 1465 g, t) = some ((0, u k, 0), (zrow f 1465 g, t)) := by
  obtain ⟨a, b, c, e⟩ := hR
  have e9 : zrow f 1465 g 1464 9 = f 1464 9 := congrFun (zrow_ne (by decide)) 9
  rcases e with ⟨e1, e2⟩ | ⟨e1, e2⟩
  · rw [ze_M_letter, zb_M_letter_0, if_neg (show ¬zrow f 1465 g 1464 9 ≠ -1 by rw [e9, e1]; decide), zb_M_letter_4, zG2 (by omega) (by omega), zb_M_letter_8]
    show some ((0, zrow f 1465 g 1469 k, 0), _) = _
    rw [zrow_ne (by decide), e2 k k0 k1]
  · rw [ze_M_letter, zb_M_letter_0, if_pos (show zrow f 1465 g 1464 9 ≠ -1 by rw [e9, e1]; decide), zb_M_letter_9]
    simp only [e9, e1]
    rw [zw_id (by omega) (by omega), zG2 (by omega) (by omega), zb_M_letter_16]
    show some ((0, zrow f 1465 g 1465 (1310 + k), 0), _) = _
    rw [zrow_r, e2 k k0 k1]
theorem xl_skip {q : Int × (Int → Int)} {d : Nat} {f : Int → Int → Int} {t : (Int → Int) × Nat × Nat × Nat × (Int → Int → Bool)} {g u : Int → Int} {n : Int} (hR : RT f g u n) : ∀ (k : Nat) (p : Int), 0 ≤ p → p + k = n → zD (true, q) (d + 1) zc_M_skip (zat zc_M_skip 0) [(20, 1464, 0)] [] (zrow (zup f 1464 11 p) 1465 g, t) = some ((9, 0, 0), (zrow (zup f 1464 11 (txSS u k p)) 1465 g, t)) := by
  have hn := hR.2.1
  have h10 := hR.2.2.1
  intro k
  induction k with
  | zero =>
    intro p p0 pn
    rw [zb_M_skip_0]
    simp (disch := omega) only [zrow_ne, zup_nk, zupE, h10]
    rw [if_pos (by omega), zb_M_skip_18]
    rfl
  | succ k ih =>
    intro p p0 pn
    rw [zb_M_skip_0]
    simp (disch := omega) only [zrow_ne, zup_nk, zupE, h10]
    rw [if_neg (by omega), zb_M_skip_5]
    simp (disch := omega) only [zrow_ne, zupE]
    rw [x_letter (RT_up (by decide) hR) p0 (by omega), zK_i, zb_M_skip_9]
    show _ = some ((9, 0, 0), (zrow (zup f 1464 11 (if u p = 32 then txSS u k (p + 1) else p)) 1465 g, t))
    by_cases c : u p = 32
    · rw [if_neg (fun z => z c), if_pos c, zb_M_skip_11]
      simp (disch := omega) only [zrow_ne, zupE, zrow_up, zw_id, zup_zup]
      exact ih (p + 1) (by omega) (by omega)
    · rw [if_pos c, if_neg c, zb_M_skip_18]
theorem x_skip {q : Int × (Int → Int)} {d : Nat} {f : Int → Int → Int} {t : (Int → Int) × Nat × Nat × Nat × (Int → Int → Bool)} {g u : Int → Int} {n p : Int} (hR : RT f g u n) (p0 : 0 ≤ f 1464 11) (p1 : f 1464 11 ≤ n) (hp : txS u n (f 1464 11) = p) : zM (true, q) (d + 1) 61 [(20, 1464, 0)] (zrow f 1465 g, t) = some ((9, 0, 0), (zrow (zup f 1464 11 p) 1465 g, t)) := by
  have h := xl_skip (q := q) (d := d) (t := t) hR (n - f 1464 11).toNat (f 1464 11) p0 (by omega)
  rw [zup_self] at h
  rw [ze_M_skip, ← hp]
  exact h
theorem x_here {q : Int × (Int → Int)} {d : Nat} {f : Int → Int → Int} {t : (Int → Int) × Nat × Nat × Nat × (Int → Int → Bool)} {g u : Int → Int} {n p : Int} (hR : RT f g u n) (p0 : 0 ≤ f 1464 11) (p1 : f 1464 11 ≤ n) (hp : txS u n (f 1464 11) = p) : zM (true, q) (d + 2) 64 [(20, 1464, 0)] (zrow f 1465 g, t) = some ((0, p, 0), (zrow (zup f 1464 11 p) 1465 g, t)) := by
  rw [ze_M_here, zb_M_here_0, x_skip hR p0 p1 hp, zK_v, zb_M_here_2]
  simp (disch := omega) only [zrow_ne, zupE]
theorem x_isSign {q : Int × (Int → Int)} {d : Nat} {f : Int → Int → Int} {t : (Int → Int) × Nat × Nat × Nat × (Int → Int → Bool)} {g u : Int → Int} {n p : Int} {c : Int} (hR : RT f g u n) (p0 : 0 ≤ f 1464 11) (p1 : f 1464 11 ≤ n) (hp : txS u n (f 1464 11) = p) : zM (true, q) (d + 2) 66 [(20, 1464, 0), (0, c, 0)] (zrow f 1465 g, t) = some ((0, if p < n ∧ u p = c then 1 else 0, 0), (zrow (zup f 1464 11 p) 1465 g, t)) := by
  have hr := txS_rng (u := u) p1
  rw [hp] at hr
  have h10 := hR.2.2.1
  rw [ze_M_isSign, zb_M_isSign_0, x_skip hR p0 p1 hp, zK_v, zb_M_isSign_2]
  simp (disch := omega) only [zrow_ne, zup_nk, zupE, h10]
  by_cases c1 : p < n
  · rw [if_neg (by omega), zb_M_isSign_7]
    simp (disch := omega) only [zrow_ne, zupE]
    rw [x_letter (RT_up (by decide) hR) (by omega) c1, zK_i, zb_M_isSign_11]
    by_cases c2 : u p = c
    · rw [if_neg (fun z => z c2), if_pos ⟨c1, c2⟩, zb_M_isSign_13, zG2 (by decide) (by decide)]
    · rw [if_pos c2, if_neg (fun z => c2 z.2), zb_M_isSign_15, zG2 (by decide) (by decide)]
  · rw [if_pos (by omega), if_neg (fun z => c1 z.1), zb_M_isSign_15, zG2 (by decide) (by decide)]
theorem xl_has1 {q : Int × (Int → Int)} {d : Nat} {f : Int → Int → Int} {t : (Int → Int) × Nat × Nat × Nat × (Int → Int → Bool)} {g u : Int → Int} {n s : Int} (hR : RT f g u n) : ∀ (k : Nat) (i : Int), 0 ≤ i → i + k = n → zD (true, q) (d + 1) zc_M_has (zat zc_M_has 5) [(20, 1464, 0), (6, s, 0), (0, i, 0), (2, 0, 0)] [] (zrow f 1465 g, t) = zD (true, q) (d + 1) zc_M_has (zat zc_M_has 18) [(20, 1464, 0), (6, s, 0), (0, txR u 1 k i, 0), (2, 0, 0)] [] (zrow f 1465 g, t) := by
  have hn := hR.2.1
  have h10 := hR.2.2.1
  intro k
  induction k with
  | zero =>
    intro i i0 im
    rw [zb_M_has_5]
    simp (disch := omega) only [zrow_ne, h10]
    rw [if_pos (by omega)]
    rfl
  | succ k ih =>
    intro i i0 im
    rw [zb_M_has_5]
    simp (disch := omega) only [zrow_ne, h10]
    rw [if_neg (by omega), zb_M_has_9, x_letter hR i0 (by omega), zK_i, zb_M_has_12]
    show _ = zD (true, q) (d + 1) zc_M_has (zat zc_M_has 18) [(20, 1464, 0), (6, s, 0), (0, if txK (u i) = 1 then txR u 1 k (i + 1) else i, 0), (2, 0, 0)] [] (zrow f 1465 g, t)
    by_cases c : 97 ≤ u i ∧ u i ≤ 122
    · rw [r_isInT c.1 c.2, zK_i, zb_M_has_15, if_neg (by decide), zb_M_has_16, zw_id (by omega) (by omega), if_pos (by unfold txK; rw [if_pos c])]
      exact ih (i + 1) (by omega) (by omega)
    · rw [r_isInF (by omega), zK_i, zb_M_has_15, if_pos rfl, if_neg (by unfold txK; rw [if_neg c]; split <;> decide)]
theorem xl_has2 {q : Int × (Int → Int)} {d : Nat} {f : Int → Int → Int} {t : (Int → Int) × Nat × Nat × Nat × (Int → Int → Bool)} {g u : Int → Int} {n s p e : Int} (hR : RT f g u n) (s0 : 0 ≤ s) (s1 : s < 31) (hat : f 1464 11 = p) (p0 : 0 ≤ p) (he : e ≤ n) (hl : ((zTx s).length : Int) = e - p) : ∀ (k : Nat) (i : Int), 0 ≤ i → i + k = (zTx s).length → zD (true, q) (d + 4) zc_M_has (zat zc_M_has 29) [(20, 1464, 0), (6, s, 0), (0, e, 0), (0, i, 0)] [] (zrow f 1465 g, t) = if txMS u ((zTx s).drop i.toNat) (p + i) = true then some ((0, 1, 0), (zrow (zup f 1464 11 e) 1465 g, t)) else some ((0, 0, 0), (zrow f 1465 g, t)) := by
  have hn := hR.2.1
  intro k
  induction k with
  | zero =>
    intro i i0 im
    rw [zb_M_has_29, k_length s0 s1, zK_i, zb_M_has_32, if_pos (by omega), zb_M_has_47, zG2 (by decide) (by decide), List.drop_eq_nil_of_le (by omega), if_pos (show txMS u [] (p + i) = true from rfl)]
    simp (disch := omega) only [zrow_up]
  | succ k ih =>
    intro i i0 im
    have hd : (zTx s).drop i.toNat = (zTx s).getD i.toNat 0 :: (zTx s).drop (i + 1).toNat := by
      rw [List.drop_eq_getElem_cons (show i.toNat < (zTx s).length by omega), List.getD_eq_getElem?_getD, List.getElem?_eq_getElem (show i.toNat < (zTx s).length by omega), Option.getD_some, show (i + 1).toNat = i.toNat + 1 by omega]
    rw [zb_M_has_29, k_length s0 s1, zK_i, zb_M_has_32, if_neg (by omega), zb_M_has_33]
    simp (disch := omega) only [zrow_ne, hat]
    rw [zw_id (by omega) (by omega), x_letter hR (by omega) (by omega), zK_i, zb_M_has_39, k_charAt s0 s1 i0 (by omega), zK_i, zb_M_has_42, hd]
    show _ = if (if (zTx s).getD i.toNat 0 = u (p + i) then txMS u ((zTx s).drop (i + 1).toNat) (p + i + 1) else false) = true then _ else _
    by_cases c : (zTx s).getD i.toNat 0 = u (p + i)
    · rw [if_pos c.symm, zb_M_has_45, zw_id (by omega) (by omega), ih (i + 1) (by omega) (by omega), if_pos c, Int.add_assoc p i 1]
    · rw [if_neg (fun z => c z.symm), zb_M_has_43, zG2 (by decide) (by decide), if_neg (show ¬(if (zTx s).getD i.toNat 0 = u (p + i) then txMS u ((zTx s).drop (i + 1).toNat) (p + i + 1) else false) = true by rw [if_neg c]; decide)]
theorem txWl : ∀ w : Nat, w < 33 → 9 ≤ w → (0 ≤ zWtx (w : Int) ∧ zWtx (w : Int) < 31 ∧ 1 ≤ (zTx (zWtx (w : Int))).length ∧ (∀ i : Nat, i < (zTx (zWtx (w : Int))).length → 97 ≤ (zTx (zWtx (w : Int))).getD i 0 ∧ (zTx (zWtx (w : Int))).getD i 0 ≤ 122)) := by decide
theorem txWd : ∀ w : Nat, w < 33 → 3 ≤ w → ∀ j : Nat, j < w → zTx (zWtx (j : Int)) ≠ zTx (zWtx (w : Int)) := by decide
theorem txWd' {w j : Int} (h3 : 3 ≤ w) (h : w < 33) (j0 : 0 ≤ j) (j1 : j < w) : zTx (zWtx j) ≠ zTx (zWtx w) := by
  have := txWd w.toNat (by omega) (by omega) j.toNat (by omega)
  rw [show ((w.toNat : Nat) : Int) = w by omega, show ((j.toNat : Nat) : Int) = j by omega] at this
  exact this
/-- a word of letters is there, by the run of letters -/
theorem tx_has {u : Int → Int} {n p w : Int} (hp : p ≤ n) (hw : 9 ≤ w ∧ w < 33) : (txT u n p = w ↔ txM u (zWtx w) p (txR u 1 (n - p).toNat p) = true) ∧ (txT u n p = w → txE u n p = txR u 1 (n - p).toNat p) := by
  obtain ⟨_, _, l1, hc⟩ := txWl w.toNat (by omega) (by omega)
  rw [show ((w.toNat : Nat) : Int) = w by omega] at l1 hc
  have hun : p < n → txK (u p) = 1 → txE u n p = txR u 1 (n - p).toNat p := by
    intro h1 h2
    unfold txE
    rw [if_neg (by omega), h2, show (n - p).toNat = (n - (p + 1)).toNat + 1 by omega]
    exact (if_pos h2).symm
  have hto : txT u n p = w → p < n ∧ txK (u p) = 1 ∧ txM u (zWtx w) p (txE u n p) = true := by
    intro h
    obtain ⟨a1, a2, a3⟩ := txT_is h (by omega)
    refine ⟨a1, ?_, a3⟩
    have b3 := a3
    unfold txM at b3
    split at b3
    · have := txMS_at _ _ b3 0 (by omega)
      have hc0 := hc 0 (by omega)
      have e0 : (zTx (zWtx w)).getD 0 0 = u p := by simpa using this
      unfold txK
      rw [if_pos (by omega)]
    · exact absurd b3 (by decide)
  refine ⟨⟨fun h => ?_, fun h => ?_⟩, fun h => ?_⟩
  · obtain ⟨a1, a2, a3⟩ := hto h
    rw [← hun a1 a2]
    exact a3
  · have hr := txR_rng (u := u) (kd := 1) (n - p).toNat p
    have b3 := h
    unfold txM at b3
    split at b3
    · rename_i hl
      have a1 : p < n := by omega
      have a2 : txK (u p) = 1 := hr.2.2.1 p (Int.le_refl p) (by omega)
      rw [← hun a1 a2] at h
      exact txT_of a1 (by omega) (fun z => by omega) h (fun j j0 j1 => txWd' (by omega) hw.2 j0 j1)
    · exact absurd b3 (by decide)
  · obtain ⟨a1, a2, _⟩ := hto h
    exact hun a1 a2
theorem x_has {q : Int × (Int → Int)} {d : Nat} {f : Int → Int → Int} {t : (Int → Int) × Nat × Nat × Nat × (Int → Int → Bool)} {g u : Int → Int} {n p : Int} {w s : Int} (hR : RT f g u n) (p0 : 0 ≤ f 1464 11) (p1 : f 1464 11 ≤ n) (hp : txS u n (f 1464 11) = p) (hw : 9 ≤ w ∧ w < 33) (hs : s = zWtx w) : zM (true, q) (d + 4) 63 [(20, 1464, 0), (6, s, 0)] (zrow f 1465 g, t) = some ((0, if txT u n p = w then 1 else 0, 0), (zrow (zup f 1464 11 (if txT u n p = w then txE u n p else p)) 1465 g, t)) := by
  have hr := txS_rng (u := u) p1
  rw [hp] at hr
  have hn := hR.2.1
  have h10 := hR.2.2.1
  obtain ⟨s0, s1, _, _⟩ := txWl w.toNat (by omega) (by omega)
  rw [show ((w.toNat : Nat) : Int) = w by omega, ← hs] at s0 s1
  have hx := tx_has (u := u) (w := w) hr.2.1 hw
  have hrr := txR_rng (u := u) (kd := 1) (n - p).toNat p
  have hR2 : RT (zup f 1464 11 p) g u n := RT_up (by decide) hR
  rw [ze_M_has, zb_M_has_0, x_skip hR p0 p1 hp, zK_v, zb_M_has_2]
  simp (disch := omega) only [zrow_ne, zupE]
  rw [xl_has1 hR2 (n - p).toNat p (by omega) (by omega), zb_M_has_18, k_length s0 s1, zK_i]
  simp (disch := omega) only [zrow_ne, zupE]
  rw [zb_M_has_24, zw_id (by omega) (by omega)]
  by_cases hl : ((zTx s).length : Int) = txR u 1 (n - p).toNat p - p
  · rw [if_pos hl.symm, zb_M_has_27, xl_has2 hR2 s0 s1 (zupE rfl rfl) (by omega) (by omega) hl (zTx s).length 0 (by decide) (by omega), show (0 : Int).toNat = 0 from rfl, List.drop_zero, Int.add_zero]
    by_cases hm : txMS u (zTx s) p = true
    · have ht : txT u n p = w := hx.1.mpr (by unfold txM; rw [← hs, if_pos hl]; exact hm)
      rw [if_pos hm, if_pos ht, if_pos ht, zup_zup, hx.2 ht]
    · have ht : ¬txT u n p = w := fun z => by
        have := hx.1.mp z
        unfold txM at this
        rw [← hs, if_pos hl] at this
        exact hm this
      rw [if_neg hm, if_neg ht, if_neg ht]
  · have ht : ¬txT u n p = w := fun z => by
      have := hx.1.mp z
      unfold txM at this
      rw [← hs, if_neg hl] at this
      exact absurd this (by decide)
    rw [if_neg (fun z => hl z.symm), zb_M_has_25, zG2 (by decide) (by decide), if_neg ht, if_neg ht]
theorem txWs : ∀ w : Nat, w < 9 → 3 ≤ w → (zTx (zWtx (w : Int))).length = 1 := by decide
/-- a sign is there -/
theorem tx_sign {u : Int → Int} {n p w c : Int} (hw : 3 ≤ w ∧ w < 9) (hc : zTx (zWtx w) = [c]) (hk : txK c = 0) : (p < n ∧ u p = c) ↔ txT u n p = w := by
  refine ⟨fun h => ?_, fun h => ?_⟩
  · have he : txE u n p = p + 1 := by
      unfold txE
      rw [h.2, if_pos hk]
    refine txT_of h.1 (by omega) (fun z => ?_) ?_ (fun j j0 j1 => txWd' (by omega) (by omega) j0 j1)
    · rw [h.2, hk] at z
      exact absurd z.1 (by decide)
    · unfold txM
      rw [hc, he, if_pos (by show (1 : Int) = p + 1 - p; omega)]
      show (if c = u p then true else false) = true
      rw [if_pos h.2.symm]
  · obtain ⟨a1, _, a3⟩ := txT_is h (by omega)
    refine ⟨a1, ?_⟩
    unfold txM at a3
    rw [hc] at a3
    split at a3
    · have a3 : (if c = u p then true else false) = true := a3
      by_cases z : c = u p
      · exact z.symm
      · rw [if_neg z] at a3
        exact absurd a3 (by decide)
    · exact absurd a3 (by decide)
theorem tx_signE {u : Int → Int} {n p c : Int} (hu : u p = c) (hk : txK c = 0) : txE u n p = p + 1 := by
  unfold txE
  rw [hu, if_pos hk]
