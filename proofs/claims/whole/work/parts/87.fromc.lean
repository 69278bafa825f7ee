/-! ## the class reads a law -/
theorem zLOs_snoc {h : Int → Int → Int} {a : Int} {l : Int × Int × List Int} : ∀ (ls : List (Int × Int × List Int)) (i : Int), zLOs h a (ls ++ [l]) i ↔ (zLOs h a ls i ∧ h (a + 1) (i + ls.length) = l.1 ∧ h (a + 2) (i + ls.length) = l.2.1 ∧ zSeg (h (a + 5)) l.2.2 (h (a + 3) (i + ls.length)) (h (a + 4) (i + ls.length)) ∧ zCok l.2.2) := by
  intro ls
  induction ls with
  | nil =>
    intro i
    show (h (a + 1) i = l.1 ∧ h (a + 2) i = l.2.1 ∧ zSeg (h (a + 5)) l.2.2 (h (a + 3) i) (h (a + 4) i) ∧ zCok l.2.2 ∧ True) ↔ _
    rw [show i + (([] : List (Int × Int × List Int)).length : Int) = i from Int.add_zero i]
    exact ⟨fun ⟨x1, x2, x3, x4, _⟩ => ⟨trivial, x1, x2, x3, x4⟩, fun ⟨_, x1, x2, x3, x4⟩ => ⟨x1, x2, x3, x4, trivial⟩⟩
  | cons m ls ih =>
    intro i
    have e : i + 1 + (ls.length : Int) = i + ((m :: ls).length : Int) := by
      rw [List.length_cons]
      omega
    show (h (a + 1) i = m.1 ∧ h (a + 2) i = m.2.1 ∧ zSeg (h (a + 5)) m.2.2 (h (a + 3) i) (h (a + 4) i) ∧ zCok m.2.2 ∧ zLOs h a (ls ++ [l]) (i + 1)) ↔ ((h (a + 1) i = m.1 ∧ h (a + 2) i = m.2.1 ∧ zSeg (h (a + 5)) m.2.2 (h (a + 3) i) (h (a + 4) i) ∧ zCok m.2.2 ∧ zLOs h a ls (i + 1)) ∧ _)
    rw [ih (i + 1), e]
    exact ⟨fun ⟨x1, x2, x3, x4, x5, x6⟩ => ⟨⟨x1, x2, x3, x4, x5⟩, x6⟩, fun ⟨⟨x1, x2, x3, x4, x5⟩, x6⟩ => ⟨x1, x2, x3, x4, x5, x6⟩⟩
theorem zLOs_congr {h h2 : Int → Int → Int} {a b N : Int} (e1 : ∀ o k, a + 1 ≤ o → o ≤ a + 4 → 0 ≤ k → k < N → h2 o k = h o k) (e2 : ∀ j, j < b → h2 (a + 5) j = h (a + 5) j) : ∀ (ls : List (Int × Int × List Int)) (i : Int), 0 ≤ i → i + ls.length ≤ N → (∀ j, i ≤ j → j < N → h (a + 4) j ≤ b) → zLOs h a ls i → zLOs h2 a ls i := by
  intro ls
  induction ls with
  | nil => intro i _ _ _ _; exact trivial
  | cons m ls ih =>
    intro i i0 hi hb hh
    rw [List.length_cons] at hi
    obtain ⟨x1, x2, x3, x4, x5⟩ := hh
    refine ⟨(e1 _ _ (by omega) (by omega) i0 (by omega)).trans x1, (e1 _ _ (by omega) (by omega) i0 (by omega)).trans x2, ?_, x4, ih (i + 1) (by omega) (by omega) (fun j j0 j1 => hb j (by omega) j1) x5⟩
    rw [e1 (a + 3) i (by omega) (by omega) i0 (by omega), e1 (a + 4) i (by omega) (by omega) i0 (by omega)]
    have hbi := hb i (Int.le_refl i) (by omega)
    exact zSeg_congr _ _ _ (fun j _ j1 => e2 j (by omega)) x3
theorem lc_from {q : Int × (Int → Int)} {d : Nat} {t : (Int → Int) × Nat × Nat × Nat × (Int → Int → Bool)} {a T n : Int} {u : Int → Int} (ha : a + 7 ≤ T) : ∀ (k : Nat) (p : Int) (acc : List (Int × Int × List Int)) (f : Int → Int → Int), (k : Int) + acc.length = 12 → zTC f t.1 T u n p (-1) → zLOs f a acc 0 → f a 6 = acc.length → 0 ≤ f a 7 → f a 7 ≤ p → (∀ j : Int, 0 ≤ j → j < acc.length → f (a + 4) j ≤ f a 7) → ∃ f2, zD (true, q) (d + 19) zc_Law_readFrom (zat zc_Law_readFrom 16) [(12, a, 0), (15, T, 0), (0, 1, 0), (0, acc.length, 0)] [] (f, t) = some ((9, 0, 0), (f2, t)) ∧ (∀ o k, (o ≠ T ∨ (k ≠ 4 ∧ k ≠ 5)) → (o ≠ a ∨ (k ≠ 6 ∧ k ≠ 7)) → ¬(a + 1 ≤ o ∧ o ≤ a + 5) → f2 o k = f o k) ∧ ((pRd u n k p acc).1 = true → f2 T 5 = -1 ∧ zLOs f2 a (pRd u n k p acc).2.2 0 ∧ f2 a 6 = (pRd u n k p acc).2.2.length ∧ 0 ≤ f2 a 7 ∧ f2 a 7 ≤ 400 ∧ ∀ j : Int, 0 ≤ j → j < (pRd u n k p acc).2.2.length → f2 (a + 4) j ≤ f2 a 7) ∧ ((pRd u n k p acc).1 ≠ true → f2 T 5 = (pRd u n k p acc).2.1 ∧ (pRd u n k p acc).2.1 ≠ -1) := by
  have stop : ∀ (i : Int) (f : Int → Int → Int), zD (true, q) (d + 19) zc_Law_readFrom (zat zc_Law_readFrom 16) [(12, a, 0), (15, T, 0), (0, 0, 0), (0, i, 0)] [] (f, t) = some ((9, 0, 0), (f, t)) := by
    intro i f
    rw [zb_Law_readFrom_16]
    by_cases c : 12 < i
    · rw [if_pos c, zb_Law_readFrom_35]
    · rw [if_neg c, zb_Law_readFrom_19, if_pos rfl, zb_Law_readFrom_35]
  have frp : ∀ (f f2 : Int → Int → Int), zFP T f f2 → (∀ o k, (o ≠ T ∨ (k ≠ 4 ∧ k ≠ 5)) → (o ≠ a ∨ (k ≠ 6 ∧ k ≠ 7)) → ¬(a + 1 ≤ o ∧ o ≤ a + 5) → f2 o k = f o k) := fun f f2 h o k o1 _ _ => h o k o1
  intro k
  induction k with
  | zero =>
    intro p acc f hk hT hL h6 b0 h7 hb
    have hp := zTC_p hT
    have hlen : (acc.length : Int) = 12 := by omega
    rw [hlen]
    obtain ⟨f1, r1, T1, fr1⟩ := c_fail (q := q) (d := d + 18) (σ := (f, t)) hT
    rw [if_pos rfl] at T1
    have r1 : zM (true, q) (d + 18) 45 [(15, T, 0)] (f, t) = some ((9, 0, 0), (f1, t)) := r1
    obtain ⟨f2, r2, T2, fr2⟩ := c_goesOn (q := q) (d := d + 16) (σ := (f1, t)) T1
    rw [if_neg (fun z => by omega), if_neg (show ¬(p = -1 ∧ _) from fun z => by omega)] at T2
    rw [if_neg (fun z => by omega)] at r2
    have r2 : zM (true, q) (d + 18) 54 [(15, T, 0)] (f1, t) = some ((0, 0, 0), (f2, t)) := r2
    refine ⟨f2, ?_, frp _ _ (zFP_trans fr1 fr2), fun z => absurd z Bool.false_ne_true, fun _ => ⟨T2.2.2.2.2, show p ≠ -1 by omega⟩⟩
    rw [zb_Law_readFrom_16, if_neg (by decide), zb_Law_readFrom_19, if_neg (by decide), zb_Law_readFrom_21, if_neg (by decide), zb_Law_readFrom_24, r1, zK_v, zb_Law_readFrom_26, r2, zK_i, zb_Law_readFrom_32]
    exact stop _ _
  | succ k ih =>
    intro p acc f hk hT hL h6 b0 h7 hb
    have hp := zTC_p hT
    obtain ⟨f1, r1, L1, s6, A, B⟩ := c_lineR (q := q) (d := d) ha hT h6 (by omega) (by omega) rfl b0 h7
    have fr1 : ∀ o k, (o ≠ T ∨ (k ≠ 4 ∧ k ≠ 5)) → (o ≠ a ∨ (k ≠ 6 ∧ k ≠ 7)) → ¬(a + 1 ≤ o ∧ o ≤ a + 5) → f1 o k = f o k := L1.1
    have hm := L1.2.2.2
    have run : ∀ x f2, zM (true, q) (d + 18) 54 [(15, T, 0)] (f1, t) = some ((0, x, 0), (f2, t)) → zD (true, q) (d + 19) zc_Law_readFrom (zat zc_Law_readFrom 16) [(12, a, 0), (15, T, 0), (0, 1, 0), (0, acc.length, 0)] [] (f, t) = zD (true, q) (d + 19) zc_Law_readFrom (zat zc_Law_readFrom 16) [(12, a, 0), (15, T, 0), (0, x, 0), (0, acc.length + 1, 0)] [] (f2, t) := by
      intro x f2 r2
      rw [zb_Law_readFrom_16, if_neg (by omega), zb_Law_readFrom_19, if_neg (by decide), zb_Law_readFrom_21, if_pos (by omega), zb_Law_readFrom_27, r1, zK_v, zb_Law_readFrom_30, r2, zK_i, zb_Law_readFrom_32, zw_id (by omega) (by omega)]
    have e0 : pRd u n (k + 1) p acc = if (pLn u n p).1 = true then (if (pLn u n p).2.1 = n then (true, n, acc ++ [(pLn u n p).2.2]) else if txT u n (pLn u n p).2.1 = 3 then pRd u n k (txN u n (pLn u n p).2.1) (acc ++ [(pLn u n p).2.2]) else (false, (pLn u n p).2.1, acc)) else (false, (pLn u n p).2.1, acc) := rfl
    rw [e0]
    by_cases hx : (pLn u n p).1 = true
    · rw [if_pos hx]
      obtain ⟨T1, a1, a2, a3, a4, a5, a6⟩ := A hx
      generalize (pLn u n p).2.1 = p1 at *
      generalize (pLn u n p).2.2 = l at *
      have hp1 := zTC_p T1
      have hlen : ((acc ++ [l]).length : Int) = acc.length + 1 := by simp
      obtain ⟨f2, r2, T2, fr2⟩ := c_goesOn (q := q) (d := d + 16) (σ := (f1, t)) T1
      have r2 : zM (true, q) (d + 18) 54 [(15, T, 0)] (f1, t) = some ((0, if (-1 : Int) = -1 ∧ txT u n p1 = 3 then 1 else 0, 0), (f2, t)) := r2
      have fr2 : zFP T f1 f2 := fr2
      have row : ∀ o k, a + 1 ≤ o → o ≤ a + 5 → f2 o k = f1 o k := fun o k o1 o2 => fr2 _ _ (by omega)
      have s62 : f2 a 6 = acc.length + 1 := (fr2 _ _ (by omega)).trans s6
      have s72 : f2 a 7 = f1 a 7 := fr2 _ _ (by omega)
      have hb2 : ∀ j, 0 ≤ j → j < ((acc ++ [l]).length : Int) → f2 (a + 4) j ≤ f2 a 7 := by
        intro j j0 j1
        rw [row _ _ (by omega) (by omega), s72]
        by_cases c : j < acc.length
        · rw [L1.2.1 _ _ (by omega) (by omega) c]
          have := hb j j0 c
          omega
        · have : j = acc.length := by omega
          rw [this]
          omega
      have hL2 : zLOs f2 a (acc ++ [l]) 0 := by
        rw [zLOs_snoc, Int.zero_add]
        refine ⟨zLOs_congr (b := f a 7) (N := acc.length) (fun o k o1 o2 k0 k1 => (row _ _ o1 (by omega)).trans (L1.2.1 _ _ o1 o2 k1)) (fun j hj => (row _ _ (by omega) (by omega)).trans (L1.2.2.1 j hj)) acc 0 (Int.le_refl 0) (by omega) hb hL, ?_, ?_, ?_, a4⟩
        · rw [row _ _ (by omega) (by omega)]; exact a1
        · rw [row _ _ (by omega) (by omega)]; exact a2
        · rw [row (a + 3) _ (by omega) (by omega), row (a + 4) _ (by omega) (by omega), show f2 (a + 5) = f1 (a + 5) from funext fun j => row _ _ (by omega) (by omega)]
          exact a3
      have fr12 : (∀ o k, (o ≠ T ∨ (k ≠ 4 ∧ k ≠ 5)) → (o ≠ a ∨ (k ≠ 6 ∧ k ≠ 7)) → ¬(a + 1 ≤ o ∧ o ≤ a + 5) → f2 o k = f o k) := fun o k o1 o2 o3 => (fr2 o k o1).trans (fr1 o k o1 o2 o3)
      by_cases c3 : txT u n p1 = 3
      · have hl := txT_lt (u := u) (n := n) (p := p1) (by omega)
        have hN := txN_rng (u := u) hl
        rw [if_pos ⟨rfl, c3⟩] at r2 T2
        rw [if_neg (by omega)] at T2
        rw [if_neg (by omega), if_pos c3, run _ _ r2]
        obtain ⟨f3, r3, fr3, X3, Y3⟩ := ih (txN u n p1) (acc ++ [l]) f2 (by omega) T2 hL2 (by omega) (by omega) (by omega) hb2
        rw [hlen] at r3
        exact ⟨f3, r3, fun o k o1 o2 o3 => (fr3 o k o1 o2 o3).trans (fr12 o k o1 o2 o3), X3, Y3⟩
      · rw [if_neg (fun z => c3 z.2)] at r2 T2
        by_cases cn : p1 = n
        · have c0 : txT u n p1 = 0 := by
            unfold txT
            rw [if_pos (by omega)]
          rw [if_neg (fun z => z.2.2 c0)] at T2
          rw [if_pos cn, run _ _ r2]
          exact ⟨f2, stop _ _, fr12, fun _ => ⟨T2.2.2.2.2, hL2, by show f2 a 6 = ((acc ++ [l]).length : Int); omega, by omega, by omega, hb2⟩, fun z => absurd rfl z⟩
        · have c0 : txT u n p1 ≠ 0 := by
            unfold txT
            rw [if_neg (by omega)]
            split
            · decide
            · rcases zfst_rng (p := fun i => txM u (zWtx i) p1 (txE u n p1)) (no := 1) 33 0 with h | h
              · rw [h]; decide
              · intro z
                have := zfst_is (p := fun i => txM u (zWtx i) p1 (txE u n p1)) (no := 1) 33 0 (by omega)
                rw [z] at this
                have hE := txE_rng (u := u) (n := n) (p := p1) (by omega)
                unfold txM at this
                rw [show zTx (zWtx 0) = [] by decide, if_neg (by show ¬(0 : Int) = _; omega)] at this
                exact absurd this (by decide)
          rw [if_pos ⟨rfl, c3, c0⟩] at T2
          rw [if_neg cn, if_neg c3, run _ _ r2]
          exact ⟨f2, stop _ _, fr12, fun z => absurd z Bool.false_ne_true, fun _ => ⟨T2.2.2.2.2, show p1 ≠ -1 by omega⟩⟩
    · rw [if_neg hx]
      obtain ⟨h1, p2, T1⟩ := B hx
      obtain ⟨f2, r2, T2, fr2⟩ := c_goesOn (q := q) (d := d + 16) (σ := (f1, t)) T1
      rw [if_neg (fun z => h1 z.1), if_neg (fun z => h1 z.1)] at T2
      rw [if_neg (fun z => h1 z.1)] at r2
      rw [run _ _ r2]
      exact ⟨f2, stop _ _, fun o k o1 o2 o3 => (fr2 o k o1).trans (fr1 o k o1 o2 o3), fun z => absurd z Bool.false_ne_true, fun _ => ⟨T2.2.2.2.2, h1⟩⟩
theorem c_lawFrom {q : Int × (Int → Int)} {d : Nat} {t : (Int → Int) × Nat × Nat × Nat × (Int → Int → Bool)} {a T n : Int} {u : Int → Int} {f : Int → Int → Int} (ha : a + 7 ≤ T) (hT : zTC f t.1 T u n (txS u n 0) (-1)) : ∃ f2, zM (true, q) (d + 19) 93 [(12, a, 0), (15, T, 0)] (f, t) = some ((9, 0, 0), (f2, t)) ∧ (∀ o k, (o ≠ T ∨ (k ≠ 4 ∧ k ≠ 5)) → (o ≠ a ∨ (k ≠ 6 ∧ k ≠ 7)) → ¬(a + 1 ≤ o ∧ o ≤ a + 5) → f2 o k = f o k) ∧ ((pLaw u n).1 = true → f2 T 5 = -1 ∧ zLOs f2 a (pLaw u n).2.2 0 ∧ f2 a 6 = (pLaw u n).2.2.length ∧ 0 ≤ f2 a 7 ∧ f2 a 7 ≤ 400 ∧ ∀ j : Int, 0 ≤ j → j < (pLaw u n).2.2.length → f2 (a + 4) j ≤ f2 a 7) ∧ ((pLaw u n).1 ≠ true → f2 T 5 = (pLaw u n).2.1 ∧ (pLaw u n).2.1 ≠ -1) := by
  have hp := zTC_p hT
  have T1 : zTC (zup (zup f a 6 0) a 7 0) t.1 T u n (txS u n 0) (-1) := zTC_up (by omega) (zTC_up (by omega) hT)
  have hw := c_word (q := q) (d := d + 18) (σ := (zup (zup f a 6 0) a 7 0, t)) T1
  have hw : zM (true, q) (d + 18) 44 [(15, T, 0)] (zup (zup f a 6 0) a 7 0, t) = some ((5, txT u n (txS u n 0), 0), (zup (zup f a 6 0) a 7 0, t)) := hw
  have g6 : zup (zup f a 6 0) a 7 0 a 6 = 0 := by rw [zup_nk (by decide), zupE rfl rfl]
  have g7 : zup (zup f a 6 0) a 7 0 a 7 = 0 := zupE rfl rfl
  have fr1 : ∀ o k, (o ≠ a ∨ (k ≠ 6 ∧ k ≠ 7)) → zup (zup f a 6 0) a 7 0 o k = f o k := fun o k o2 => by rw [zup_nka (by omega), zup_nka (by omega)]
  have run0 : zM (true, q) (d + 19) 93 [(12, a, 0), (15, T, 0)] (f, t) = zD (true, q) (d + 19) zc_Law_readFrom (zat zc_Law_readFrom 8) [(12, a, 0), (15, T, 0), (2, 0, 0), (2, 0, 0)] [(5, txT u n (txS u n 0), 0)] (zup (zup f a 6 0) a 7 0, t) := by
    rw [ze_Law_readFrom, zb_Law_readFrom_0]
    show zK _ _ _ _ _ _ (zM (true, q) (d + 18) 44 [(15, T, 0)] (zup (zup f a 6 0) a 7 0, t)) = _
    rw [hw, zK_w]
  rw [run0, zb_Law_readFrom_8]
  unfold pLaw
  by_cases c : txS u n 0 < n
  · rw [if_pos c]
    have c0 : txT u n (txS u n 0) ≠ 0 := by
      intro z
      have hz := z
      unfold txT at z
      rw [if_neg (by omega)] at z
      split at z
      · exact absurd z (by decide)
      · rcases zfst_rng (p := fun i => txM u (zWtx i) (txS u n 0) (txE u n (txS u n 0))) (no := 1) 33 0 with h | h
        · rw [h] at z; exact absurd z (by decide)
        · have := zfst_is (p := fun i => txM u (zWtx i) (txS u n 0) (txE u n (txS u n 0))) (no := 1) 33 0 (by omega)
          rw [z] at this
          have hE := txE_rng (u := u) (n := n) (p := txS u n 0) (by omega)
          unfold txM at this
          rw [show zTx (zWtx 0) = [] by decide, if_neg (by show ¬(0 : Int) = _; omega)] at this
          exact absurd this (by decide)
    rw [if_neg c0, zb_Law_readFrom_10]
    obtain ⟨f2, r2, fr2, X, Y⟩ := lc_from (q := q) (d := d) (t := t) ha 12 (txS u n 0) [] _ rfl T1 trivial g6 (by omega) (by omega) (fun j j0 j1 => by exfalso; have : j < 0 := j1; omega)
    exact ⟨f2, r2, fun o k o1 o2 o3 => (fr2 o k o1 o2 o3).trans (fr1 o k o2), X, Y⟩
  · rw [if_neg c]
    have c0 : txT u n (txS u n 0) = 0 := by
      unfold txT
      rw [if_pos (by omega)]
    rw [if_pos c0, zb_Law_readFrom_12, zb_Law_readFrom_16, if_neg (by decide), zb_Law_readFrom_19, if_pos rfl, zb_Law_readFrom_35]
    exact ⟨_, rfl, fun o k o1 o2 o3 => fr1 o k o2, fun _ => ⟨T1.2.2.2.2, trivial, g6, by omega, by omega, fun j j0 j1 => by exfalso; have : j < 0 := j1; omega⟩, fun z => absurd rfl z⟩

