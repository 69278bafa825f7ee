/-! ## a fault that comes round -/
def hitI (k c : Int) : Int := if k % (c / 12 + 1) = c % 12 then 1 else 0
def gW (T : Int → Int) (c : Int) : Nat → Int → Int → Int
  | 0, _, w => w
  | k + 1, i, w => gW T c k (i + 1) (if hitI (T (2 * i)) c = (if T (2 * i + 1) = 1 then 1 else 0) then w else w + 1)
def gWc (T : Int → Int) (m c : Int) : Int := if c % 12 ≤ c / 12 then gW T c m.toNat 0 0 else m + 2
def okR (T : Int → Int) : Nat → Int → Bool
  | 0, _ => true
  | k + 1, i => if T (2 * i) < 100 ∧ T (2 * i + 1) < 2 then okR T k (i + 1) else false
theorem hitI_01 {k c : Int} : hitI k c = 0 ∨ hitI k c = 1 := by
  unfold hitI
  split <;> simp
theorem gW_rng {T : Int → Int} {c : Int} : ∀ (k : Nat) (i w : Int), w ≤ gW T c k i w ∧ gW T c k i w ≤ w + k := by
  intro k
  induction k with
  | zero => intro i w; show w ≤ w ∧ w ≤ w + 0; omega
  | succ k ih =>
    intro i w
    have h2 : ∀ (p : Prop) [Decidable p], w ≤ (if p then w else w + 1) ∧ (if p then w else w + 1) ≤ w + 1 := by
      intro p _
      split <;> omega
    have h3 := h2 (hitI (T (2 * i)) c = (if T (2 * i + 1) = 1 then 1 else 0))
    show w ≤ gW T c k (i + 1) (if hitI (T (2 * i)) c = (if T (2 * i + 1) = 1 then 1 else 0) then w else w + 1) ∧ gW T c k (i + 1) (if hitI (T (2 * i)) c = (if T (2 * i + 1) = 1 then 1 else 0) then w else w + 1) ≤ w + (k + 1 : Nat)
    generalize (if hitI (T (2 * i)) c = (if T (2 * i + 1) = 1 then 1 else 0) then w else w + 1) = w2 at h3 ⊢
    have := ih (i + 1) w2
    omega
theorem zdiv12 {c : Int} (h0 : 0 ≤ c) (h1 : c < 144) : zdiv c 12 = c / 12 := by
  unfold zdiv
  rw [Int.tdiv_eq_ediv_of_nonneg h0, zw_id (by omega) (by omega)]
theorem zrem12 {c : Int} (h0 : 0 ≤ c) : zrem c 12 = c % 12 := Int.tmod_eq_emod_of_nonneg h0
theorem c_hits {q : Int × (Int → Int)} {d : Nat} {σ : zS} {k c : Int} (k0 : 0 ≤ k) (c0 : 0 ≤ c) (c1 : c < 144) : zM (true, q) d 231 [(0, k, 0), (0, c / 12 + 1, 0), (0, c % 12, 0)] σ = some ((0, hitI k c, 0), σ) := by
  unfold hitI
  rw [ze_Per_hits, zb_Per_hits_0, if_neg (by omega), zb_Per_hits_2, zG1 (by omega), show zrem k (c / 12 + 1) = k % (c / 12 + 1) from Int.tmod_eq_emod_of_nonneg k0, zb_Per_hits_5]
  by_cases h : k % (c / 12 + 1) = c % 12
  · rw [if_neg (fun z => z h), if_pos h, zb_Per_hits_7, zG2 (by decide) (by decide)]
  · rw [if_pos h, if_neg h, zb_Per_hits_9, zG2 (by decide) (by decide)]
theorem r_isBad {q : Int × (Int → Int)} {d : Nat} {σ : zS} {k c : Int} (k0 : 0 ≤ k) (c0 : 0 ≤ c) (c1 : c < 144) : zM (true, q) d 240 [(0, c, 0), (0, k, 0)] σ = some ((0, hitI k c, 0), σ) := by
  unfold hitI
  rw [ze_M_isBad, zb_M_isBad_0, zG1 (by decide), zdiv12 c0 c1, zb_M_isBad_4, zw_id (z := c / 12 + 1) (by omega) (by omega), zG1 (by omega), show zrem k (c / 12 + 1) = k % (c / 12 + 1) from Int.tmod_eq_emod_of_nonneg k0, zb_M_isBad_7, zG1 (by decide), zrem12 c0, zb_M_isBad_10]
  by_cases h : k % (c / 12 + 1) = c % 12
  · rw [if_neg (fun z => z h), if_pos h, zb_M_isBad_11, zG2 (by decide) (by decide)]
  · rw [if_pos h, if_neg h, zb_M_isBad_13, zG2 (by decide) (by decide)]
theorem c_wrong {q : Int × (Int → Int)} {d : Nat} {σ : zS} {T : Int → Int} {m c : Int} (m0 : 0 ≤ m) (m20 : m ≤ 20) (h3 : σ.1 313 3 = m) (hk : ∀ i, 0 ≤ i → i < m → σ.1 314 i = T (2 * i) ∧ σ.1 315 i = T (2 * i + 1) ∧ 0 ≤ T (2 * i)) (c0 : 0 ≤ c) (c1 : c < 144) : zM (true, q) (d + 1) 232 [(14, 313, 0), (0, c / 12 + 1, 0), (0, c % 12, 0)] σ = some ((0, gW T c m.toNat 0 0, 0), σ) := by
  have loop : ∀ (k : Nat) (i w : Int), 0 ≤ i → i + k = m → 0 ≤ w → w ≤ i → zD (true, q) (d + 1) zc_Per_wrongRows (zat zc_Per_wrongRows 4) [(14, 313, 0), (0, c / 12 + 1, 0), (0, c % 12, 0), (0, w, 0), (0, i, 0)] [] σ = some ((0, gW T c k i w, 0), σ) := by
    intro k
    induction k with
    | zero =>
      intro i w i0 hi w0 w1
      rw [zb_Per_wrongRows_4, if_pos (by omega), zb_Per_wrongRows_28]
      rfl
    | succ k ih =>
      intro i w i0 hi w0 w1
      obtain ⟨e1, e2, e3⟩ := hk i i0 (by omega)
      have ha : zM (true, q) d 22 [(30, 313 + 1, 40), (0, i, 0)] σ = some ((0, T (2 * i), 0), σ) := by rw [s_at i0 (by omega)]; exact congrArg (fun z => some ((0, z, 0), σ)) e1
      have hb : zM (true, q) d 22 [(30, 313 + 2, 40), (0, i, 0)] σ = some ((0, T (2 * i + 1), 0), σ) := by rw [s_at i0 (by omega)]; exact congrArg (fun z => some ((0, z, 0), σ)) e2
      have run : zD (true, q) (d + 1) zc_Per_wrongRows (zat zc_Per_wrongRows 4) [(14, 313, 0), (0, c / 12 + 1, 0), (0, c % 12, 0), (0, w, 0), (0, i, 0)] [] σ = zD (true, q) (d + 1) zc_Per_wrongRows (zat zc_Per_wrongRows 4) [(14, 313, 0), (0, c / 12 + 1, 0), (0, c % 12, 0), (0, if hitI (T (2 * i)) c = (if T (2 * i + 1) = 1 then 1 else 0) then w else w + 1, 0), (0, i + 1, 0)] [] σ := by
        rw [zb_Per_wrongRows_4, if_neg (by omega), zb_Per_wrongRows_8, ha, zK_i, zb_Per_wrongRows_12, c_hits e3 c0 c1, zK_i, zb_Per_wrongRows_15, hb, zK_i, zb_Per_wrongRows_19]
        have h01 := hitI_01 (k := T (2 * i)) (c := c)
        by_cases cb : T (2 * i + 1) = 1
        · rw [if_neg (fun z => z cb), zb_Per_wrongRows_21, if_pos cb]
          by_cases ch : hitI (T (2 * i)) c = 1
          · rw [if_pos ch, if_pos ch, zb_Per_wrongRows_26, zw_id (z := i + 1) (by omega) (by omega)]
          · rw [if_neg ch, if_neg ch, zb_Per_wrongRows_25, zw_id (z := i + 1) (by omega) (by omega), zw_id (z := w + 1) (by omega) (by omega)]
        · rw [if_pos cb, zb_Per_wrongRows_23, if_neg cb]
          by_cases ch : hitI (T (2 * i)) c = 0
          · rw [if_pos ch, if_pos ch, zb_Per_wrongRows_26, zw_id (z := i + 1) (by omega) (by omega)]
          · rw [if_neg ch, if_neg ch, zb_Per_wrongRows_25, zw_id (z := i + 1) (by omega) (by omega), zw_id (z := w + 1) (by omega) (by omega)]
      rw [run]
      exact ih (i + 1) _ (by omega) (by omega) (by split <;> omega) (by split <;> omega)
  rw [ze_Per_wrongRows, zb_Per_wrongRows_0]
  exact loop m.toNat 0 0 (Int.le_refl 0) (by omega) (Int.le_refl 0) (Int.le_refl 0)
theorem r_wrong {q : Int × (Int → Int)} {d : Nat} {σ : zS} {T : Int → Int} {m c : Int} (m0 : 0 ≤ m) (m20 : m ≤ 20) (hT : ∀ j, σ.1 1469 j = T j) (hk : ∀ i, 0 ≤ i → i < m → 0 ≤ T (2 * i)) (c0 : 0 ≤ c) (c1 : c < 144) : zM (true, q) (d + 1) 241 [(20, 1464, 0), (0, c, 0), (0, 2 * m, 0)] σ = some ((0, gW T c m.toNat 0 0, 0), σ) := by
  have loop : ∀ (k : Nat) (i w : Int), 0 ≤ i → i + k = m → 0 ≤ w → w ≤ i → zD (true, q) (d + 1) zc_M_wrongRows (zat zc_M_wrongRows 4) [(20, 1464, 0), (0, c, 0), (0, 2 * m, 0), (0, w, 0), (0, 2 * i, 0)] [] σ = some ((0, gW T c k i w, 0), σ) := by
    intro k
    induction k with
    | zero =>
      intro i w i0 hi w0 w1
      rw [zb_M_wrongRows_4, if_pos (by omega), zb_M_wrongRows_33]
      rfl
    | succ k ih =>
      intro i w i0 hi w0 w1
      have e3 := hk i i0 (by omega)
      have run : zD (true, q) (d + 1) zc_M_wrongRows (zat zc_M_wrongRows 4) [(20, 1464, 0), (0, c, 0), (0, 2 * m, 0), (0, w, 0), (0, 2 * i, 0)] [] σ = zD (true, q) (d + 1) zc_M_wrongRows (zat zc_M_wrongRows 4) [(20, 1464, 0), (0, c, 0), (0, 2 * m, 0), (0, if hitI (T (2 * i)) c = (if T (2 * i + 1) = 1 then 1 else 0) then w else w + 1, 0), (0, 2 * (i + 1), 0)] [] σ := by
        rw [zb_M_wrongRows_4, if_neg (by omega), zb_M_wrongRows_7, zG2 (by omega) (by omega)]
        show zD (true, q) (d + 1) zc_M_wrongRows (zat zc_M_wrongRows 13) _ [(0, σ.1 1469 (2 * i), 0), (0, c, 0), (0, w, 0)] σ = _
        rw [hT, zb_M_wrongRows_13, r_isBad e3 c0 c1, zK_i, zb_M_wrongRows_14, zw_id (z := 2 * i + 1) (by omega) (by omega), zG2 (by omega) (by omega)]
        show zD (true, q) (d + 1) zc_M_wrongRows (zat zc_M_wrongRows 20) _ [(0, σ.1 1469 (2 * i + 1), 0), _, _] σ = _
        rw [hT, zb_M_wrongRows_20]
        have h01 := hitI_01 (k := T (2 * i)) (c := c)
        have e2 : zw (2 * i + 2) = 2 * (i + 1) := by rw [zw_id (by omega) (by omega)]; omega
        by_cases cb : T (2 * i + 1) = 1
        · rw [if_neg (fun z => z cb), zb_M_wrongRows_22, if_pos cb]
          by_cases ch : hitI (T (2 * i)) c = 1
          · rw [if_neg (fun z => z ch), if_pos ch, zb_M_wrongRows_26, e2, Int.add_zero, zw_id (z := w) (by omega) (by omega)]
          · rw [if_pos ch, if_neg ch, zb_M_wrongRows_28, e2, zw_id (z := w + 1) (by omega) (by omega)]
        · rw [if_pos cb, zb_M_wrongRows_24, if_neg cb]
          by_cases ch : hitI (T (2 * i)) c = 0
          · rw [if_neg (fun z => z ch), if_pos ch, zb_M_wrongRows_26, e2, Int.add_zero, zw_id (z := w) (by omega) (by omega)]
          · rw [if_pos ch, if_neg ch, zb_M_wrongRows_28, e2, zw_id (z := w + 1) (by omega) (by omega)]
      rw [run]
      exact ih (i + 1) _ (by omega) (by omega) (by split <;> omega) (by split <;> omega)
  rw [ze_M_wrongRows, zb_M_wrongRows_0]
  exact loop m.toNat 0 0 (Int.le_refl 0) (by omega) (Int.le_refl 0) (Int.le_refl 0)
theorem r_isFit {q : Int × (Int → Int)} {d : Nat} {σ : zS} {T : Int → Int} {m c : Int} (m0 : 0 ≤ m) (m20 : m ≤ 20) (hT : ∀ j, σ.1 1469 j = T j) (hk : ∀ i, 0 ≤ i → i < m → 0 ≤ T (2 * i)) (c0 : 0 ≤ c) (c1 : c < 144) : zM (true, q) (d + 2) 242 [(20, 1464, 0), (0, c, 0), (0, 2 * m, 0)] σ = some ((0, if gWc T m c ≤ 1 then 1 else 0, 0), σ) := by
  have hc : zM (true, q) (d + 1) 239 [(0, c, 0)] σ = some ((0, if c % 12 ≤ c / 12 then 1 else 0, 0), σ) := by
    rw [ze_M_isCourse, zb_M_isCourse_0, zG1 (by decide), zrem12 c0, zb_M_isCourse_3, zG1 (by decide), zdiv12 c0 c1, zb_M_isCourse_6]
    by_cases h : c % 12 ≤ c / 12
    · rw [if_neg (by omega), if_pos h, zb_M_isCourse_7, zG2 (by decide) (by decide)]
    · rw [if_pos (by omega), if_neg h, zb_M_isCourse_9, zG2 (by decide) (by decide)]
  rw [ze_M_isFit, zb_M_isFit_0, hc, zK_i, zb_M_isFit_2]
  unfold gWc
  by_cases h : c % 12 ≤ c / 12
  · rw [if_pos h, if_pos h, if_neg (by decide), zb_M_isFit_3, r_wrong m0 m20 hT hk c0 c1, zK_i, zb_M_isFit_7]
    by_cases h2 : gW T c m.toNat 0 0 ≤ 1
    · rw [if_neg (by omega), if_pos h2, zb_M_isFit_9, zG2 (by decide) (by decide)]
    · rw [if_pos (by omega), if_neg h2, zb_M_isFit_11, zG2 (by decide) (by decide)]
  · rw [if_neg h, if_neg h, if_pos rfl, zb_M_isFit_11, zG2 (by decide) (by decide), if_neg (by omega)]
/-! ### the class reads the rows -/
def okT (T : Int → Int) (n : Int) : Bool := decide (n ≤ 40 ∧ n % 2 = 0) && okR T (n / 2).toNat 0
theorem c_perRead {q : Int × (Int → Int)} {d : Nat} {t : (Int → Int) × Nat × Nat × Nat × (Int → Int → Bool)} {f : Int → Int → Int} {T : Int → Int} {n : Int} (n0 : 0 ≤ n) (n4 : n ≤ 400) (hT : ∀ j, 0 ≤ j → j < n → f 1 j = T j ∧ 0 ≤ T j) : ∃ f2, zM (true, q) (d + 2) 233 [(14, 313, 0), (30, 1, 400), (0, n, 0)] (f, t) = some ((0, if okT T n = true then 1 else 0, 0), (f2, t)) ∧ (∀ o k, (o < 313 ∨ 317 ≤ o) → f2 o k = f o k) ∧ (okT T n = true → ∀ c, 0 ≤ c → c < 144 → f2 316 c = gWc T (n / 2) c) := by
  by_cases hn : n ≤ 40 ∧ n % 2 = 0
  · generalize hm : n / 2 = m
    have m0 : 0 ≤ m ∧ m ≤ 20 ∧ n = 2 * m := by omega
    have ok : okT T n = okR T m.toNat 0 := by
      unfold okT
      rw [decide_eq_true hn, hm]
      rfl
    rw [ok]
    generalize hf0 : zup f 313 3 m = f0
    have run0 : zM (true, q) (d + 2) 233 [(14, 313, 0), (30, 1, 400), (0, n, 0)] (f, t) = zD (true, q) (d + 2) zc_Per_readFrom (zat zc_Per_readFrom 16) [(14, 313, 0), (30, 1, 400), (0, n, 0), (0, 0, 0)] [] (f0, t) := by
      rw [ze_Per_readFrom, zb_Per_readFrom_0, if_neg (by omega), zb_Per_readFrom_3, zG1 (by decide), show zrem n 2 = n % 2 from Int.tmod_eq_emod_of_nonneg n0, zb_Per_readFrom_6, if_pos hn.2, zb_Per_readFrom_9, zG1 (by decide), show zdiv n 2 = m by unfold zdiv; rw [Int.tdiv_eq_ediv_of_nonneg n0, zw_id (by omega) (by omega), hm], zb_Per_readFrom_13]
      show zD (true, q) (d + 2) zc_Per_readFrom (zat zc_Per_readFrom 16) _ _ (zup f 313 3 m, t) = _
      rw [hf0]
    have l1 : ∀ (k : Nat) (i : Int) (F : Int → Int → Int), 0 ≤ i → i + k = m → F 313 3 = m → (∀ o k, (o < 313 ∨ 316 ≤ o) → F o k = f o k) → (∀ j, 0 ≤ j → j < i → F 314 j = T (2 * j) ∧ F 315 j = T (2 * j + 1)) → ∃ f2, (∀ o k, (o < 313 ∨ 316 ≤ o) → f2 o k = f o k) ∧ (okR T k i = true → zD (true, q) (d + 2) zc_Per_readFrom (zat zc_Per_readFrom 16) [(14, 313, 0), (30, 1, 400), (0, n, 0), (0, i, 0)] [] (F, t) = zD (true, q) (d + 2) zc_Per_readFrom (zat zc_Per_readFrom 56) [(14, 313, 0), (30, 1, 400), (0, n, 0), (0, m, 0)] [] (f2, t) ∧ f2 313 3 = m ∧ ∀ j, 0 ≤ j → j < m → f2 314 j = T (2 * j) ∧ f2 315 j = T (2 * j + 1)) ∧ (okR T k i ≠ true → zD (true, q) (d + 2) zc_Per_readFrom (zat zc_Per_readFrom 16) [(14, 313, 0), (30, 1, 400), (0, n, 0), (0, i, 0)] [] (F, t) = some ((0, 0, 0), (f2, t))) := by
      intro k
      induction k with
      | zero =>
        intro i F i0 hi F3 fr hF
        have e : i = m := by omega
        refine ⟨F, fr, fun _ => ⟨?_, F3, fun j j0 j1 => hF j j0 (by omega)⟩, fun z => absurd rfl z⟩
        rw [zb_Per_readFrom_16]
        show (if F 313 3 ≤ i then _ else _) = _
        rw [F3, if_pos (by omega), e]
      | succ k ih =>
        intro i F i0 hi F3 fr hF
        have t1 := hT (2 * i) (by omega) (by omega)
        have t2 := hT (2 * i + 1) (by omega) (by omega)
        generalize hG : zup (zup F 314 i (T (2 * i))) 315 i (T (2 * i + 1)) = G
        have run : zD (true, q) (d + 2) zc_Per_readFrom (zat zc_Per_readFrom 16) [(14, 313, 0), (30, 1, 400), (0, n, 0), (0, i, 0)] [] (F, t) = (if T (2 * i) < 100 ∧ T (2 * i + 1) < 2 then zD (true, q) (d + 2) zc_Per_readFrom (zat zc_Per_readFrom 16) [(14, 313, 0), (30, 1, 400), (0, n, 0), (0, i + 1, 0)] [] (G, t) else some ((0, 0, 0), (G, t))) := by
          rw [zb_Per_readFrom_16]
          show (if F 313 3 ≤ i then _ else _) = _
          rw [F3, if_neg (by omega), zb_Per_readFrom_20, zw_id (z := 2 * i) (by omega) (by omega), s_at (by omega) (by omega), zK_i]
          show zD (true, q) (d + 2) zc_Per_readFrom (zat zc_Per_readFrom 28) _ [(0, F 1 (2 * i), 0), (0, i, 0), (30, 314, 40)] (F, t) = _
          rw [fr 1 (2 * i) (by omega), t1.1, zb_Per_readFrom_28, s_put i0 (by omega), zK_v, zb_Per_readFrom_29, zw_id (z := 2 * i) (by omega) (by omega), zw_id (z := 2 * i + 1) (by omega) (by omega), s_at (by omega) (by omega), zK_i]
          show zD (true, q) (d + 2) zc_Per_readFrom (zat zc_Per_readFrom 39) _ [(0, zup F 314 i (T (2 * i)) 1 (2 * i + 1), 0), (0, i, 0), (30, 315, 40)] (zup F 314 i (T (2 * i)), t) = _
          rw [zup_na (by decide), fr 1 (2 * i + 1) (by omega), t2.1, zb_Per_readFrom_39, s_put i0 (by omega), zK_v]
          show zD (true, q) (d + 2) zc_Per_readFrom (zat zc_Per_readFrom 40) _ _ (zup (zup F 314 i (T (2 * i))) 315 i (T (2 * i + 1)), t) = _
          rw [hG, zb_Per_readFrom_40, s_at i0 (by omega), zK_i]
          show zD (true, q) (d + 2) zc_Per_readFrom (zat zc_Per_readFrom 44) _ [(0, G 314 i, 0)] (G, t) = _
          rw [show G 314 i = T (2 * i) by rw [← hG, zup_na (by decide), zupE rfl rfl], zb_Per_readFrom_44]
          by_cases c1 : T (2 * i) < 100
          · rw [if_neg (by omega), zb_Per_readFrom_46, s_at i0 (by omega), zK_i]
            show zD (true, q) (d + 2) zc_Per_readFrom (zat zc_Per_readFrom 50) _ [(0, G 315 i, 0)] (G, t) = _
            rw [show G 315 i = T (2 * i + 1) by rw [← hG, zupE rfl rfl], zb_Per_readFrom_50]
            by_cases c2 : T (2 * i + 1) < 2
            · rw [if_pos (by omega), if_pos ⟨c1, c2⟩, zb_Per_readFrom_54, zw_id (by omega) (by omega)]
            · rw [if_neg (by omega), if_neg (fun z => c2 z.2), zb_Per_readFrom_52, zG2 (by decide) (by decide)]
          · rw [if_pos (by omega), if_neg (fun z => c1 z.1), zb_Per_readFrom_52, zG2 (by decide) (by decide)]
        have frG : ∀ o k, (o < 313 ∨ 316 ≤ o) → G o k = f o k := fun o k ho => by
          rw [← hG, zup_na (by omega), zup_na (by omega)]
          exact fr o k ho
        have ek : okR T (k + 1) i = if T (2 * i) < 100 ∧ T (2 * i + 1) < 2 then okR T k (i + 1) else false := rfl
        by_cases c : T (2 * i) < 100 ∧ T (2 * i + 1) < 2
        · rw [if_pos c] at run ek
          obtain ⟨f2, h1, h2, h3⟩ := ih (i + 1) G (by omega) (by omega) (by rw [← hG, zup_na (by decide), zup_na (by decide)]; exact F3) frG (fun j j0 j1 => by
            rw [← hG, zup_na (show (314 : Int) ≠ 315 by decide)]
            by_cases cj : j = i
            · rw [cj, zupE rfl rfl, zupE rfl rfl]
              exact ⟨rfl, rfl⟩
            · rw [zup_nk cj, zup_nk cj, zup_na (by decide)]
              exact hF j j0 (by omega))
          rw [run, ek]
          exact ⟨f2, h1, h2, h3⟩
        · rw [if_neg c] at run ek
          rw [run, ek]
          exact ⟨G, frG, fun z => absurd z Bool.false_ne_true, fun _ => rfl⟩
    obtain ⟨f1, fr1, Y1, N1⟩ := l1 m.toNat 0 f0 (Int.le_refl 0) (by omega) (by rw [← hf0, zupE rfl rfl]) (fun o k ho => by rw [← hf0, zup_na (by omega)]) (fun j j0 j1 => by omega)
    by_cases c : okR T m.toNat 0 = true
    · obtain ⟨r1, s3, srow⟩ := Y1 c
      have l2 : ∀ (k : Nat) (c : Int) (F : Int → Int → Int), 0 ≤ c → c + k = 144 → (∀ o k, o ≠ 316 → F o k = f1 o k) → (∀ j, 0 ≤ j → j < c → F 316 j = gWc T m j) → ∃ f2, zD (true, q) (d + 2) zc_Per_readFrom (zat zc_Per_readFrom 58) [(14, 313, 0), (30, 1, 400), (0, n, 0), (0, c, 0)] [] (F, t) = some ((0, 1, 0), (f2, t)) ∧ (∀ o k, o ≠ 316 → f2 o k = f1 o k) ∧ ∀ j, 0 ≤ j → j < 144 → f2 316 j = gWc T m j := by
        intro k
        induction k with
        | zero =>
          intro c F c0 hc fr hF
          exact ⟨F, by rw [zb_Per_readFrom_58, if_pos (by omega), zb_Per_readFrom_87, zG2 (by decide) (by decide)], fr, fun j j0 j1 => hF j j0 (by omega)⟩
        | succ k ih =>
          intro c F c0 hc fr hF
          have h1 : zM (true, q) (d + 1) 230 [(0, c, 0)] (F, t) = some ((0, if c % 12 ≤ c / 12 then 1 else 0, 0), (F, t)) := by
            rw [ze_Per_isOne, zb_Per_isOne_0, zG1 (by decide), zrem12 c0, zb_Per_isOne_3, zG1 (by decide), zdiv12 c0 (by omega), zb_Per_isOne_6]
            by_cases h : c % 12 ≤ c / 12
            · rw [if_neg (by omega), if_pos h, zb_Per_isOne_7, zG2 (by decide) (by decide)]
            · rw [if_pos (by omega), if_neg h, zb_Per_isOne_9, zG2 (by decide) (by decide)]
          have F3 : F 313 3 = m := (fr _ _ (by decide)).trans s3
          have run : zD (true, q) (d + 2) zc_Per_readFrom (zat zc_Per_readFrom 58) [(14, 313, 0), (30, 1, 400), (0, n, 0), (0, c, 0)] [] (F, t) = zD (true, q) (d + 2) zc_Per_readFrom (zat zc_Per_readFrom 58) [(14, 313, 0), (30, 1, 400), (0, n, 0), (0, c + 1, 0)] [] (zup F 316 c (gWc T m c), t) := by
            rw [zb_Per_readFrom_58, if_neg (by omega), zb_Per_readFrom_63, h1, zK_i, zb_Per_readFrom_68]
            unfold gWc
            by_cases h : c % 12 ≤ c / 12
            · rw [if_pos h, if_neg (by decide), if_pos h, zb_Per_readFrom_69, zG1 (by decide), zdiv12 c0 (by omega), zb_Per_readFrom_73, zG1 (by decide), zrem12 c0, zw_id (z := c / 12 + 1) (by omega) (by omega), zb_Per_readFrom_78, c_wrong (σ := (F, t)) (T := T) m0.1 m0.2.1 F3 (fun i i0 i1 => by
                have a := srow i i0 i1
                have b := hT (2 * i) (by omega) (by omega)
                exact ⟨(fr _ _ (by decide)).trans a.1, (fr _ _ (by decide)).trans a.2, b.2⟩) c0 (by omega), zK_i, zb_Per_readFrom_79, zG2 (by omega) (by omega), zb_Per_readFrom_85, zw_id (z := c + 1) (by omega) (by omega)]
              rfl
            · rw [if_neg h, if_pos rfl, if_neg h, zb_Per_readFrom_80, zG2 (by omega) (by omega)]
              show zD (true, q) (d + 2) zc_Per_readFrom (zat zc_Per_readFrom 85) _ _ (zup F 316 c (zw (F 313 3 + 2)), t) = _
              rw [F3, zw_id (z := m + 2) (by omega) (by omega), zb_Per_readFrom_85, zw_id (z := c + 1) (by omega) (by omega)]
          rw [run]
          refine ih (c + 1) _ (by omega) (by omega) (fun o k ho => (zup_na ho).trans (fr o k ho)) (fun j j0 j1 => ?_)
          by_cases cj : j = c
          · rw [cj, zupE rfl rfl]
          · rw [zup_nk cj]
            exact hF j j0 (by omega)
      obtain ⟨f2, r2, fr2, w2⟩ := l2 144 0 f1 (Int.le_refl 0) rfl (fun _ _ _ => rfl) (fun j j0 j1 => by omega)
      refine ⟨f2, ?_, fun o k ho => (fr2 o k (by omega)).trans (fr1 o k (by omega)), fun _ => w2⟩
      rw [if_pos c, run0, r1, zb_Per_readFrom_56]
      exact r2
    · exact ⟨f1, by rw [if_neg c, run0]; exact N1 c, fun o k ho => fr1 o k (by omega), fun z => absurd z c⟩
  · have ok : okT T n = false := by
      unfold okT
      rw [decide_eq_false hn]
      rfl
    rw [ok]
    refine ⟨f, ?_, fun _ _ _ => rfl, fun z => absurd z Bool.false_ne_true⟩
    rw [if_neg Bool.false_ne_true, ze_Per_readFrom, zb_Per_readFrom_0]
    by_cases c : 40 < n
    · rw [if_pos c, zb_Per_readFrom_7, zG2 (by decide) (by decide)]
    · rw [if_neg c, zb_Per_readFrom_3, zG1 (by decide), show zrem n 2 = n % 2 from Int.tmod_eq_emod_of_nonneg n0, zb_Per_readFrom_6, if_neg (by omega), zb_Per_readFrom_7, zG2 (by decide) (by decide)]
theorem c_rows {q : Int × (Int → Int)} {d : Nat} {N : Int} {t : (Int → Int) × Nat × Nat × Nat × (Int → Int → Bool)} {f : Int → Int → Int} (hR : ZR N f f) : ∃ f2, zM (true, q) (d + 3) 234 [(19, 0, 0)] (f, t) = (if okT (f 1469) (f 1464 8) = true then some ((9, 0, 0), (f2, t)) else some ((100, 0, 0), (f2, zThr t))) ∧ f2 0 12 = 0 ∧ (∀ o k, (o < 313 ∨ 317 ≤ o) → (o ≠ 0 ∨ k ≠ 12) → f2 o k = f o k) ∧ (okT (f 1469) (f 1464 8) = true → ∀ c, 0 ≤ c → c < 144 → f2 316 c = gWc (f 1469) (f 1464 8 / 2) c) := by
  obtain ⟨t1, t2, t3, t4⟩ := hR.2.2.2.1
  obtain ⟨f1, r1, fr1, w1⟩ := c_perRead (q := q) (d := d) (t := t) (f := f) (T := f 1469) t2 t3 (fun j j0 j1 => ⟨(t4 j j0 j1).1, (t4 j j0 j1).2.1⟩)
  refine ⟨zup f1 0 12 0, ?_, zupE rfl rfl, fun o k ho hk => (zup_nka (by omega)).trans (fr1 o k ho), fun z c c0 c1 => (zup_na (by decide)).trans (w1 z c c0 c1)⟩
  rw [ze_X_readRows, zb_X_readRows_0]
  show zK _ _ _ _ _ _ (zM (true, q) (d + 2) 233 [(14, 313, 0), (30, 1, 400), (0, f 0 12, 0)] (f, t)) = _
  rw [t1, r1, zK_i, zb_X_readRows_7]
  by_cases c : okT (f 1469) (f 1464 8) = true
  · rw [if_pos c, if_pos c, if_pos (by decide), zb_X_readRows_18]
  · rw [if_neg c, if_neg c, if_neg (fun z => z rfl), zb_X_readRows_13]
    rfl
theorem r_rows {q : Int × (Int → Int)} {d : Nat} {h : Int → Int → Int} {t : (Int → Int) × Nat × Nat × Nat × (Int → Int → Bool)} {T : Int → Int} {n : Int} (h8 : h 1464 8 = n) (n0 : 0 ≤ n) (n4 : n ≤ 400) (hT : ∀ j, h 1469 j = T j) : zM (true, q) d 238 [(20, 1464, 0)] (h, t) = some ((0, n, 0), (zup (zup h 1464 8 0) 1464 0 (if okT T n = true then 0 else 1), t)) := by
  generalize hH : zup h 1464 8 0 = H
  have hT2 : ∀ j, H 1469 j = T j := fun j => by rw [← hH, zup_na (by decide)]; exact hT j
  have fin0 : ∀ v, zD (true, q) d zc_M_rowsTold (zat zc_M_rowsTold 44) [(20, 1464, 0), (0, n, 0), (0, 0, 0), (0, v, 0)] [] (H, t) = some ((0, n, 0), (zup H 1464 0 1, t)) := fun v => by
    rw [zb_M_rowsTold_44, if_pos rfl, zb_M_rowsTold_49]
  have run0 : zM (true, q) d 238 [(20, 1464, 0)] (h, t) = zD (true, q) d zc_M_rowsTold (zat zc_M_rowsTold 9) [(20, 1464, 0), (0, n, 0), (2, 0, 0), (2, 0, 0)] [(0, n % 2, 0)] (H, t) := by
    rw [ze_M_rowsTold, zb_M_rowsTold_0, zG1 (by decide)]
    show zD (true, q) d zc_M_rowsTold (zat zc_M_rowsTold 9) [(20, 1464, 0), (0, h 1464 8, 0), (2, 0, 0), (2, 0, 0)] [(0, zrem (h 1464 8) 2, 0)] (zup h 1464 8 0, t) = _
    rw [h8, hH, show zrem n 2 = n % 2 from Int.tmod_eq_emod_of_nonneg n0]
  by_cases hn : n ≤ 40 ∧ n % 2 = 0
  · generalize hm : n / 2 = m
    have m0 : 0 ≤ m ∧ m ≤ 20 ∧ n = 2 * m := by omega
    have ok : okT T n = okR T m.toNat 0 := by
      unfold okT
      rw [decide_eq_true hn, hm]
      rfl
    have loop : ∀ (k : Nat) (i : Int), 0 ≤ i → i + k = m → zD (true, q) d zc_M_rowsTold (zat zc_M_rowsTold 19) [(20, 1464, 0), (0, n, 0), (0, 1, 0), (0, 2 * i, 0)] [] (H, t) = some ((0, n, 0), (zup H 1464 0 (if okR T k i = true then 0 else 1), t)) := by
      intro k
      induction k with
      | zero =>
        intro i i0 hi
        rw [zb_M_rowsTold_19, if_pos (by omega), zb_M_rowsTold_44, if_neg (by decide), zb_M_rowsTold_47]
        rfl
      | succ k ih =>
        intro i i0 hi
        have ek : okR T (k + 1) i = if T (2 * i) < 100 ∧ T (2 * i + 1) < 2 then okR T k (i + 1) else false := rfl
        have e2 : zw (2 * i + 2) = 2 * (i + 1) := by rw [zw_id (by omega) (by omega)]; omega
        have bad : zD (true, q) d zc_M_rowsTold (zat zc_M_rowsTold 40) [(20, 1464, 0), (0, n, 0), (0, 1, 0), (0, 2 * i, 0)] [] (H, t) = some ((0, n, 0), (zup H 1464 0 1, t)) := by
          rw [zb_M_rowsTold_40, e2, zb_M_rowsTold_19]
          by_cases c : n ≤ 2 * (i + 1)
          · rw [if_pos c, fin0]
          · rw [if_neg c, zb_M_rowsTold_22, if_pos rfl, fin0]
        rw [zb_M_rowsTold_19, if_neg (by omega), zb_M_rowsTold_22, if_neg (by decide), zb_M_rowsTold_24, zG2 (by omega) (by omega)]
        show zD (true, q) d zc_M_rowsTold (zat zc_M_rowsTold 28) _ [(0, H 1469 (2 * i), 0)] (H, t) = _
        rw [hT2, zb_M_rowsTold_28]
        by_cases c1 : T (2 * i) < 100
        · rw [if_neg (by omega), zb_M_rowsTold_30, zw_id (z := 2 * i + 1) (by omega) (by omega), zG2 (by omega) (by omega)]
          show zD (true, q) d zc_M_rowsTold (zat zc_M_rowsTold 36) _ [(0, H 1469 (2 * i + 1), 0)] (H, t) = _
          rw [hT2, zb_M_rowsTold_36]
          by_cases c2 : T (2 * i + 1) < 2
          · rw [if_neg (by omega), show okR T (k + 1) i = okR T k (i + 1) from ek.trans (if_pos ⟨c1, c2⟩), zb_M_rowsTold_38, e2]
            exact ih (i + 1) (by omega) (by omega)
          · rw [if_pos (by omega), show okR T (k + 1) i = false from ek.trans (if_neg (fun z => c2 z.2)), bad, if_neg Bool.false_ne_true]
        · rw [if_pos (by omega), show okR T (k + 1) i = false from ek.trans (if_neg (fun z => c1 z.1)), bad, if_neg Bool.false_ne_true]
    rw [run0, zb_M_rowsTold_9, if_neg (fun z => z hn.2), zb_M_rowsTold_10, if_neg (by omega), zb_M_rowsTold_13, ok]
    exact loop m.toNat 0 (Int.le_refl 0) (by omega)
  · have ok : okT T n = false := by
      unfold okT
      rw [decide_eq_false hn]
      rfl
    have bad : zD (true, q) d zc_M_rowsTold (zat zc_M_rowsTold 15) [(20, 1464, 0), (0, n, 0), (2, 0, 0), (2, 0, 0)] [] (H, t) = some ((0, n, 0), (zup H 1464 0 1, t)) := by
      rw [zb_M_rowsTold_15, zb_M_rowsTold_19]
      by_cases c : n ≤ 0
      · rw [if_pos c, fin0]
      · rw [if_neg c, zb_M_rowsTold_22, if_pos rfl, fin0]
    rw [run0, ok, if_neg Bool.false_ne_true, zb_M_rowsTold_9]
    by_cases c : n % 2 = 0
    · rw [if_neg (fun z => z c), zb_M_rowsTold_10, if_pos (by omega), bad]
    · rw [if_pos c, bad]

