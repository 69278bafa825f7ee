/-! ## what the law says -/
def zLv (l : Int × Int × List Int) : Prop := (l.1 = 0 ∨ l.1 = 1 ∨ l.1 = 2) ∧ 0 ≤ l.2.1 ∧ l.2.1 ≤ 99
def zSS (x : Int) (φ : Int → Int) : List (Int × Int × List Int) → Int
  | [] => 0
  | l :: ls => (if l.1 = x ∧ zHo φ l.2.2 = true then l.2.1 else 0) + zSS x φ ls
def zSv (ls : List (Int × Int × List Int)) : Int → (Int → Int) → Int := fun x φ => zSS x φ ls
theorem zSS_rng {x : Int} {φ : Int → Int} : ∀ (ls : List (Int × Int × List Int)), (∀ l ∈ ls, zLv l) → 0 ≤ zSS x φ ls ∧ zSS x φ ls ≤ 99 * ls.length := by
  intro ls
  induction ls with
  | nil => intro _; exact ⟨Int.le_refl 0, Int.le_refl 0⟩
  | cons l ls ih =>
    intro h
    have h1 := h l (by simp)
    have h2 := ih (fun m hm => h m (by simp [hm]))
    show 0 ≤ (if l.1 = x ∧ zHo φ l.2.2 = true then l.2.1 else 0) + zSS x φ ls ∧ (if l.1 = x ∧ zHo φ l.2.2 = true then l.2.1 else 0) + zSS x φ ls ≤ 99 * ((l :: ls).length : Int)
    have e : ((l :: ls).length : Int) = ls.length + 1 := by simp
    have := h1.2
    rw [e]
    split <;> omega
theorem zF18_sum {φ : Int → Int} : ∀ (ls : List (Int × Int × List Int)) (x : Int), (∀ l ∈ ls, zLv l) → -1000000 + 99 * ls.length ≤ x → x ≤ 1000000 - 99 * ls.length → zF18 φ ls x = x + (zSS 0 φ ls - zSS 1 φ ls) := by
  intro ls
  induction ls with
  | nil => intro x _ _ _; show x = x + (0 - 0); omega
  | cons l ls ih =>
    intro x h a b
    have h1 := h l (by simp)
    have h2 := fun m hm => h m (List.mem_cons_of_mem l hm)
    have e : ((l :: ls).length : Int) = ls.length + 1 := by simp
    rw [e] at a b
    show zF18 φ ls (zA18 φ l x) = x + (((if l.1 = 0 ∧ zHo φ l.2.2 = true then l.2.1 else 0) + zSS 0 φ ls) - ((if l.1 = 1 ∧ zHo φ l.2.2 = true then l.2.1 else 0) + zSS 1 φ ls))
    have hv := h1.2
    have hA : zA18 φ l x = x + ((if l.1 = 0 ∧ zHo φ l.2.2 = true then l.2.1 else 0) - (if l.1 = 1 ∧ zHo φ l.2.2 = true then l.2.1 else 0)) ∧ x - 99 ≤ zA18 φ l x ∧ zA18 φ l x ≤ x + 99 := by
      unfold zA18
      by_cases hh : zHo φ l.2.2 = true
      · rw [if_pos hh]
        rcases h1.1 with h3 | h3 | h3
        · rw [if_pos h3, if_pos ⟨h3, hh⟩, if_neg (fun z => by omega), zw_id (by omega) (by omega)]
          omega
        · rw [if_neg (by omega), if_pos h3, if_neg (fun z => by omega), if_pos ⟨h3, hh⟩, zw_id (by omega) (by omega)]
          omega
        · rw [if_neg (by omega), if_neg (by omega), if_neg (fun z => by omega), if_neg (fun z => by omega), zw_id (by omega) (by omega)]
          omega
      · rw [if_neg hh, if_neg (fun z => hh z.2), if_neg (fun z => hh z.2)]
        omega
    rw [ih _ h2 (by omega) (by omega), hA.1]
    omega
theorem zF19_sum {φ : Int → Int} : ∀ (ls : List (Int × Int × List Int)) (x : Int), (∀ l ∈ ls, zLv l) → -1000000 + 99 * ls.length ≤ x → x ≤ 1000000 - 99 * ls.length → zF19 φ ls x = x + zSS 2 φ ls := by
  intro ls
  induction ls with
  | nil => intro x _ _ _; show x = x + 0; omega
  | cons l ls ih =>
    intro x h a b
    have h1 := h l (by simp)
    have h2 := fun m hm => h m (List.mem_cons_of_mem l hm)
    have e : ((l :: ls).length : Int) = ls.length + 1 := by simp
    rw [e] at a b
    show zF19 φ ls (zA19 φ l x) = x + ((if l.1 = 2 ∧ zHo φ l.2.2 = true then l.2.1 else 0) + zSS 2 φ ls)
    have hv := h1.2
    have hA : zA19 φ l x = x + (if l.1 = 2 ∧ zHo φ l.2.2 = true then l.2.1 else 0) ∧ x - 99 ≤ zA19 φ l x ∧ zA19 φ l x ≤ x + 99 := by
      unfold zA19
      by_cases hh : zHo φ l.2.2 = true
      · rw [if_pos hh]
        by_cases h3 : l.1 = 2
        · rw [if_pos h3, if_pos ⟨h3, hh⟩, zw_id (by omega) (by omega)]
          omega
        · rw [if_neg h3, if_neg (fun z => h3 z.1), zw_id (by omega) (by omega)]
          omega
      · rw [if_neg hh, if_neg (fun z => hh z.2)]
        omega
    rw [ih _ h2 (by omega) (by omega), hA.1]
    omega
theorem pLn_v {u : Int → Int} {n p : Int} (h : (pLn u n p).1 = true) : zLv (pLn u n p).2.2 := by
  unfold pLn at h ⊢
  have hk : pKd (txT u n p) = -1 ∨ pKd (txT u n p) = 0 ∨ pKd (txT u n p) = 1 ∨ pKd (txT u n p) = 2 := by
    unfold pKd
    split
    · omega
    · split
      · omega
      · split <;> omega
  by_cases c1 : pKd (txT u n p) = -1
  · rw [if_pos c1] at h
    exact absurd h Bool.false_ne_true
  · rw [if_neg c1] at h ⊢
    by_cases c2 : txT u n (txN u n p) = 2 ∧ 0 ≤ txV u n (txN u n p) ∧ txV u n (txN u n p) ≤ 99
    · rw [if_pos c2]
      split
      · exact ⟨by show pKd (txT u n p) = 0 ∨ pKd (txT u n p) = 1 ∨ pKd (txT u n p) = 2; omega, c2.2⟩
      · exact ⟨by show pKd (txT u n p) = 0 ∨ pKd (txT u n p) = 1 ∨ pKd (txT u n p) = 2; omega, c2.2⟩
    · rw [if_neg c2] at h
      exact absurd h Bool.false_ne_true
theorem pRd_v {u : Int → Int} {n : Int} : ∀ (k : Nat) (p : Int) (acc : List (Int × Int × List Int)), (∀ l ∈ acc, zLv l) → (pRd u n k p acc).1 = true → (∀ l ∈ (pRd u n k p acc).2.2, zLv l) ∧ (pRd u n k p acc).2.2.length ≤ acc.length + k := by
  intro k
  induction k with
  | zero => intro p acc _ h; exact absurd h Bool.false_ne_true
  | succ k ih =>
    intro p acc ha h
    have hun : pRd u n (k + 1) p acc = (if (pLn u n p).1 = true then (if (pLn u n p).2.1 = n then (true, n, acc ++ [(pLn u n p).2.2]) else if txT u n (pLn u n p).2.1 = 3 then pRd u n k (txN u n (pLn u n p).2.1) (acc ++ [(pLn u n p).2.2]) else (false, (pLn u n p).2.1, acc)) else (false, (pLn u n p).2.1, acc)) := rfl
    rw [hun] at h ⊢
    by_cases c1 : (pLn u n p).1 = true
    · rw [if_pos c1] at h ⊢
      have hv := pLn_v c1
      have ha2 : ∀ l ∈ acc ++ [(pLn u n p).2.2], zLv l := fun l hl => by
        rcases List.mem_append.mp hl with h1 | h1
        · exact ha l h1
        · rw [List.mem_singleton.mp h1]
          exact hv
      by_cases c2 : (pLn u n p).2.1 = n
      · rw [if_pos c2]
        exact ⟨ha2, by show (acc ++ [(pLn u n p).2.2]).length ≤ _; simp⟩
      · rw [if_neg c2] at h ⊢
        by_cases c3 : txT u n (pLn u n p).2.1 = 3
        · rw [if_pos c3] at h ⊢
          have := ih _ _ ha2 h
          refine ⟨this.1, ?_⟩
          have h5 := this.2
          simp at h5
          omega
        · rw [if_neg c3] at h
          exact absurd h Bool.false_ne_true
    · rw [if_neg c1] at h
      exact absurd h Bool.false_ne_true
theorem pLaw_v {u : Int → Int} {n : Int} (h : (pLaw u n).1 = true) : (∀ l ∈ (pLaw u n).2.2, zLv l) ∧ (pLaw u n).2.2.length ≤ 12 := by
  unfold pLaw at h ⊢
  by_cases c : txS u n 0 < n
  · rw [if_pos c] at h ⊢
    have := pRd_v 12 _ [] (fun l hl => absurd hl (by simp)) h
    simpa using this
  · rw [if_neg c]
    exact ⟨fun l hl => absurd hl (by simp), by simp⟩
/-- the text of the law that a row keeps -/
def zTu (w : Int → Int) : Int → Int := fun k => if 0 ≤ k then w (1310 + k) else 0
def zTn (w : Int → Int) : Int := if w 1 < 1 then 0 else w 2
def zTok (w : Int → Int) : Prop := (pLaw (zTu w) (zTn w)).1 = true ∧ 0 ≤ zTn w ∧ zTn w ≤ 400
theorem zAsk_of {q : Int × (Int → Int)} {w : Int → Int} (hw : zTok w) : zAsk q (zLwA (zSv (pLaw (zTu w) (zTn w)).2.2)) w := by
  intro g hg d f t l len fo re hl hl4 l0 l9 hfo hre hr g4 g49
  obtain ⟨h_0, h_1, h_2, h_3, h_4, h_5, h_6, h_7, h_8, h_9, h_10, h_11, h_12, h_13, h_14, h_15, h_16⟩ := id hr
  have hz4 : zrem (g 4) 100 = zrem (g 4) 100 := rfl
  -- the facts
  have run1 : ∃ f8, zM (true, q) (d + 60) 150 [(20, 1464, 0), (0, l, 0), (0, len, 0), (0, fo, 0), (0, re, 0)] (zrow f 1465 g, t) = zD (true, q) (d + 60) zc_M_asks (zat zc_M_asks 88) [(20, 1464, 0), (0, l, 0), (0, len, 0), (0, fo, 0), (0, re, 0), (0, f 1464 12, 0), (2, 0, 0)] [(0, g 1, 0), (20, 1464, 0)] (zrow f8 1465 g, t) ∧ f8 1464 18 = g (10 + 265 * l + 1) ∧ f8 1464 19 = len ∧ f8 1464 12 = -1 ∧ f8 1464 9 = 1310 ∧ (∀ k, 0 ≤ k → k < 7 → f8 1470 k = rFact g l len fo re k) ∧ f8 1464 15 = rFact g l len fo re 7 ∧ f8 1464 16 = fo ∧ f8 1464 17 = re ∧ (∀ o k, o ≠ 1465 → o ≠ 1470 → (o = 1464 → k < 9 ∨ 19 < k) → f8 o k = f o k) := by
    refine ⟨zup (zup (zup (zup (zup (zup (zup (zup (zup (zup (zup (zup (zup (zup f 1464 18 (g (10 + 265 * l + 1))) 1464 19 len) 1470 0 l) 1470 1 len) 1470 2 (g (10 + 265 * l + 7))) 1470 3 (g (10 + 265 * l + 6))) 1470 4 (g (10 + 265 * l + 12))) 1470 5 (g (10 + 265 * l + 2))) 1470 6 (zrem (g 4) 100)) 1464 15 (if len = 0 then 1 else 0)) 1464 16 fo) 1464 17 re) 1464 12 (-1)) 1464 9 1310, ?_, ?_, ?_, ?_, ?_, fun k k0 k7 => ?_, ?_, ?_, ?_, fun o k o1 o2 o3 => ?_⟩
    · by_cases c : len = 0
      · rw [if_pos c]
        rw [ze_M_asks, zb_M_asks_0, r_of hl hl4 (by decide) (by decide), zK_i, zb_M_asks_5]
        try simp (disch := omega) only [Int.reduceAdd, zrow_r, zrow_in, zrow_up, zrow_ne, zupE]
        rw [zG2 (by omega) (by omega), zb_M_asks_14]
        try simp (disch := omega) only [Int.reduceAdd, zrow_r, zrow_in, zrow_up, zrow_ne, zupE]
        rw [zG2 (by omega) (by omega), zb_M_asks_19]
        try simp (disch := omega) only [Int.reduceAdd, zrow_r, zrow_in, zrow_up, zrow_ne, zupE]
        rw [r_of hl hl4 (by decide) (by decide), zK_i, zb_M_asks_26]
        try simp (disch := omega) only [Int.reduceAdd, zrow_r, zrow_in, zrow_up, zrow_ne, zupE]
        rw [zG2 (by omega) (by omega), zb_M_asks_27]
        try simp (disch := omega) only [Int.reduceAdd, zrow_r, zrow_in, zrow_up, zrow_ne, zupE]
        rw [r_of hl hl4 (by decide) (by decide), zK_i, zb_M_asks_34]
        try simp (disch := omega) only [Int.reduceAdd, zrow_r, zrow_in, zrow_up, zrow_ne, zupE]
        rw [zG2 (by omega) (by omega), zb_M_asks_35]
        try simp (disch := omega) only [Int.reduceAdd, zrow_r, zrow_in, zrow_up, zrow_ne, zupE]
        rw [r_of hl hl4 (by decide) (by decide), zK_i, zb_M_asks_42]
        try simp (disch := omega) only [Int.reduceAdd, zrow_r, zrow_in, zrow_up, zrow_ne, zupE]
        rw [zG2 (by omega) (by omega), zb_M_asks_43]
        try simp (disch := omega) only [Int.reduceAdd, zrow_r, zrow_in, zrow_up, zrow_ne, zupE]
        rw [r_of hl hl4 (by decide) (by decide), zK_i, zb_M_asks_50]
        try simp (disch := omega) only [Int.reduceAdd, zrow_r, zrow_in, zrow_up, zrow_ne, zupE]
        rw [zG2 (by omega) (by omega), zb_M_asks_51]
        try simp (disch := omega) only [Int.reduceAdd, zrow_r, zrow_in, zrow_up, zrow_ne, zupE]
        rw [zG2 (by omega) (by omega), zb_M_asks_58, zG1 (by omega), zb_M_asks_60]
        try simp (disch := omega) only [Int.reduceAdd, zrow_r, zrow_in, zrow_up, zrow_ne, zupE]
        rw [zG2 (by omega) (by omega), zb_M_asks_61, if_neg (fun z => z c), zb_M_asks_64]
        try simp (disch := omega) only [Int.reduceAdd, zrow_r, zrow_in, zrow_up, zrow_ne, zupE]
        rw [zG2 (by omega) (by omega), zb_M_asks_68]
        try simp (disch := omega) only [Int.reduceAdd, zrow_r, zrow_in, zrow_up, zrow_ne, zupE]
        rw [zG2 (by omega) (by omega), zb_M_asks_71]
        try simp (disch := omega) only [Int.reduceAdd, zrow_r, zrow_in, zrow_up, zrow_ne, zupE]
        rw [zG2 (by omega) (by omega), zb_M_asks_74]
        try simp (disch := omega) only [Int.reduceAdd, zrow_r, zrow_in, zrow_up, zrow_ne, zupE]
        rw [zG2 (by omega) (by omega)]
        try simp (disch := omega) only [zup_nk, zup_na]
      · rw [if_neg c]
        rw [ze_M_asks, zb_M_asks_0, r_of hl hl4 (by decide) (by decide), zK_i, zb_M_asks_5]
        try simp (disch := omega) only [Int.reduceAdd, zrow_r, zrow_in, zrow_up, zrow_ne, zupE]
        rw [zG2 (by omega) (by omega), zb_M_asks_14]
        try simp (disch := omega) only [Int.reduceAdd, zrow_r, zrow_in, zrow_up, zrow_ne, zupE]
        rw [zG2 (by omega) (by omega), zb_M_asks_19]
        try simp (disch := omega) only [Int.reduceAdd, zrow_r, zrow_in, zrow_up, zrow_ne, zupE]
        rw [r_of hl hl4 (by decide) (by decide), zK_i, zb_M_asks_26]
        try simp (disch := omega) only [Int.reduceAdd, zrow_r, zrow_in, zrow_up, zrow_ne, zupE]
        rw [zG2 (by omega) (by omega), zb_M_asks_27]
        try simp (disch := omega) only [Int.reduceAdd, zrow_r, zrow_in, zrow_up, zrow_ne, zupE]
        rw [r_of hl hl4 (by decide) (by decide), zK_i, zb_M_asks_34]
        try simp (disch := omega) only [Int.reduceAdd, zrow_r, zrow_in, zrow_up, zrow_ne, zupE]
        rw [zG2 (by omega) (by omega), zb_M_asks_35]
        try simp (disch := omega) only [Int.reduceAdd, zrow_r, zrow_in, zrow_up, zrow_ne, zupE]
        rw [r_of hl hl4 (by decide) (by decide), zK_i, zb_M_asks_42]
        try simp (disch := omega) only [Int.reduceAdd, zrow_r, zrow_in, zrow_up, zrow_ne, zupE]
        rw [zG2 (by omega) (by omega), zb_M_asks_43]
        try simp (disch := omega) only [Int.reduceAdd, zrow_r, zrow_in, zrow_up, zrow_ne, zupE]
        rw [r_of hl hl4 (by decide) (by decide), zK_i, zb_M_asks_50]
        try simp (disch := omega) only [Int.reduceAdd, zrow_r, zrow_in, zrow_up, zrow_ne, zupE]
        rw [zG2 (by omega) (by omega), zb_M_asks_51]
        try simp (disch := omega) only [Int.reduceAdd, zrow_r, zrow_in, zrow_up, zrow_ne, zupE]
        rw [zG2 (by omega) (by omega), zb_M_asks_58, zG1 (by omega), zb_M_asks_60]
        try simp (disch := omega) only [Int.reduceAdd, zrow_r, zrow_in, zrow_up, zrow_ne, zupE]
        rw [zG2 (by omega) (by omega), zb_M_asks_61, if_pos (c), zb_M_asks_66]
        try simp (disch := omega) only [Int.reduceAdd, zrow_r, zrow_in, zrow_up, zrow_ne, zupE]
        rw [zG2 (by omega) (by omega), zb_M_asks_68]
        try simp (disch := omega) only [Int.reduceAdd, zrow_r, zrow_in, zrow_up, zrow_ne, zupE]
        rw [zG2 (by omega) (by omega), zb_M_asks_71]
        try simp (disch := omega) only [Int.reduceAdd, zrow_r, zrow_in, zrow_up, zrow_ne, zupE]
        rw [zG2 (by omega) (by omega), zb_M_asks_74]
        try simp (disch := omega) only [Int.reduceAdd, zrow_r, zrow_in, zrow_up, zrow_ne, zupE]
        rw [zG2 (by omega) (by omega)]
        try simp (disch := omega) only [zup_nk, zup_na]
    · simp (disch := omega) only [zup_nk, zup_na, zupE]
    · simp (disch := omega) only [zup_nk, zup_na, zupE]
    · simp (disch := omega) only [zup_nk, zup_na, zupE]
    · simp (disch := omega) only [zup_nk, zup_na, zupE]
    · unfold rFact
      rcases (by omega : k = 0 ∨ k = 1 ∨ k = 2 ∨ k = 3 ∨ k = 4 ∨ k = 5 ∨ k = 6) with rfl | rfl | rfl | rfl | rfl | rfl | rfl <;> simp (disch := omega) only [zup_nk, zup_na, zupE] <;> rfl
    · simp (disch := omega) only [zup_nk, zup_na, zupE]
      rfl
    · simp (disch := omega) only [zup_nk, zup_na, zupE]
    · simp (disch := omega) only [zup_nk, zup_na, zupE]
    · simp (disch := omega) only [zup_nka]
  obtain ⟨f8, r8, e18, e19, e12, e9, eF, e15, e16, e17, fr8⟩ := run1
  have hz : ∀ nn, nn = zTn w → ∃ f9 c, zM (true, q) (d + 59) 84 [(20, 1464, 0), (0, 1, 0)] (zrow (zup (zup (zup f8 1464 10 nn) 1464 11 0) 1464 13 0) 1465 g, t) = some ((0, c, 0), (zrow f9 1465 g, t)) ∧ zFU (zup (zup (zup f8 1464 10 nn) 1464 11 0) 1464 13 0) f9 ∧ f9 1464 18 = zF18 (rFact g l len fo re) (pLaw (zTu w) (zTn w)).2.2 (g (10 + 265 * l + 1)) ∧ f9 1464 19 = zF19 (rFact g l len fo re) (pLaw (zTu w) (zTn w)).2.2 len := by
    intro nn hn
    subst hn
    have hI : XI (zup (zup (zup f8 1464 10 (zTn w)) 1464 11 0) 1464 13 0) g (zTu w) (zTn w) (rFact g l len fo re) 0 (txS (zTu w) (zTn w) 0) := by
      refine ⟨⟨hw.2.1, hw.2.2, ?_, Or.inr ⟨?_, fun k k0 k1 => (hg _ (by omega)).trans (if_pos k0).symm⟩⟩, ⟨fun k k0 k1 => ?_, ?_, ?_, ?_, ?_, ?_, ?_⟩, ?_, ?_, ?_, ?_, ?_⟩
      · rw [zup_nk (by decide), zup_nk (by decide), zupE rfl rfl]
      · rw [zup_nk (by decide), zup_nk (by decide), zup_nk (by decide)]
        exact e9
      · rw [zup_na (by decide), zup_na (by decide), zup_na (by decide)]
        exact eF k k0 k1
      · rw [zup_nk (by decide), zup_nk (by decide), zup_nk (by decide)]
        exact e15
      · rw [zup_nk (by decide), zup_nk (by decide), zup_nk (by decide)]
        exact e16
      · rw [zup_nk (by decide), zup_nk (by decide), zup_nk (by decide)]
        exact e17
      · show (if len = 0 then (1 : Int) else 0) = 0 ∨ (if len = 0 then (1 : Int) else 0) = 1
        split <;> omega
      · exact hfo
      · exact hre
      · rw [zup_nk (by decide), zup_nk (by decide), zup_nk (by decide)]
        exact e12
      · rw [zup_nk (by decide), zupE rfl rfl]
        exact Int.le_refl 0
      · rw [zup_nk (by decide), zupE rfl rfl]
        exact hw.2.1
      · rw [zup_nk (by decide), zupE rfl rfl]
      · exact zupE rfl rfl
    obtain ⟨f9, c, r9, z9, a9, _⟩ := x_reads (q := q) (d := d + 29) (t := t) hI (by rw [zup_nk (by decide), zupE rfl rfl])
    obtain ⟨b1, b2, b3, b4⟩ := a9 hw.1
    rw [zup_nk (by decide), zup_nk (by decide), zup_nk (by decide), e18] at b3
    rw [zup_nk (by decide), zup_nk (by decide), zup_nk (by decide), e19] at b4
    exact ⟨f9, c, r9, z9, b3, b4⟩
  obtain ⟨f9, c9, r9, z9, s18, s19⟩ := hz (zTn w) rfl
  have hv := pLaw_v hw.1
  have hv12 : ((pLaw (zTu w) (zTn w)).2.2.length : Int) ≤ 12 := by
    have := hv.2
    omega
  rw [zF18_sum _ _ hv.1 (by omega) (by omega)] at s18
  rw [zF19_sum _ _ hv.1 (by omega) (by omega)] at s19
  have run2 : zD (true, q) (d + 60) zc_M_asks (zat zc_M_asks 88) [(20, 1464, 0), (0, l, 0), (0, len, 0), (0, fo, 0), (0, re, 0), (0, f 1464 12, 0), (2, 0, 0)] [(0, g 1, 0), (20, 1464, 0)] (zrow f8 1465 g, t) = zD (true, q) (d + 60) zc_M_asks (zat zc_M_asks 106) [(20, 1464, 0), (0, l, 0), (0, len, 0), (0, fo, 0), (0, re, 0), (0, f 1464 12, 0), (2, 0, 0)] [(0, c9, 0)] (zrow f9 1465 g, t) := by
    have h1 := hg 1 (by omega)
    have h2 := hg 2 (by omega)
    unfold zTn at r9
    rw [← h1, ← h2] at r9
    rw [zb_M_asks_88]
    by_cases c1 : 1 ≤ g 1
    · rw [if_neg (by omega)] at r9
      rw [if_pos c1, zb_M_asks_92]
      simp (disch := omega) only [Int.reduceAdd, zrow_r]
      rw [zG2 (by decide) (by decide), zb_M_asks_96]
      simp (disch := omega) only [zrow_up]
      rw [r9, zK_i]
    · rw [if_pos (by omega)] at r9
      rw [if_neg c1, zb_M_asks_90]
      simp (disch := omega) only [zrow_up]
      rw [r9, zK_i]
  refine ⟨zup (zup f9 1464 12 (f 1464 12)) 1464 18 (zClamp (g (10 + 265 * l + 1) + (zLwA (zSv (pLaw (zTu w) (zTn w)).2.2) (rFact g l len fo re)).1)), ?_, zupE rfl rfl, ?_, fun o k o1 o2 o3 => ?_, fun _ => ⟨?_, ?_, ?_⟩⟩
  · rw [r8, run2, zb_M_asks_106]
    simp (disch := omega) only [zrow_up, zrow_ne, zup_nk]
    rw [r_lesser, zK_i, zb_M_asks_116, r_greater, zK_i, zb_M_asks_117]
    simp (disch := omega) only [zrow_up]
    have ev : (if 0 ≤ (if f9 1464 18 ≤ 100 then f9 1464 18 else 100) then (if f9 1464 18 ≤ 100 then f9 1464 18 else 100) else 0) = zClamp (g (10 + 265 * l + 1) + (zLwA (zSv (pLaw (zTu w) (zTn w)).2.2) (rFact g l len fo re)).1) := by
      rw [s18]
      show _ = zClamp (g (10 + 265 * l + 1) + (zSS 0 (rFact g l len fo re) (pLaw (zTu w) (zTn w)).2.2 - zSS 1 (rFact g l len fo re) (pLaw (zTu w) (zTn w)).2.2))
      generalize g (10 + 265 * l + 1) + (zSS 0 (rFact g l len fo re) (pLaw (zTu w) (zTn w)).2.2 - zSS 1 (rFact g l len fo re) (pLaw (zTu w) (zTn w)).2.2) = v
      unfold zClamp
      by_cases c1 : v ≤ 100
      · rw [if_pos c1]
        by_cases c2 : v < 0
        · rw [if_neg (by omega), if_pos c2]
        · rw [if_pos (by omega), if_neg c2, if_neg (by omega)]
      · rw [if_neg c1, if_pos (by decide), if_neg (by omega), if_pos (by omega)]
    rw [ev]
  · rw [zup_nk (by decide), zup_nk (by decide), s19]
    rfl
  · by_cases ho : o = 1464
    · subst ho
      have o4 := o3 rfl
      rw [zup_nk (by omega)]
      by_cases k12 : k = 12
      · rw [zupE rfl k12, k12]
      · rw [zup_nk k12, z9 _ _ (by omega), zup_nk (by omega), zup_nk (by omega), zup_nk (by omega)]
        exact fr8 _ k o1 o2 (fun _ => by omega)
    · rw [zup_na ho, zup_na ho, z9 _ _ (Or.inl ho), zup_na ho, zup_na ho, zup_na ho]
      exact fr8 o k o1 o2 (fun z => absurd z ho)
  · rw [zup_nk (by decide), zup_nk (by decide), z9 _ _ (by omega), zup_nk (by decide), zup_nk (by decide), zup_nk (by decide), e15]
    show (if len = 0 then (1 : Int) else 0) = 0 ∨ (if len = 0 then (1 : Int) else 0) = 1
    split
    · exact Or.inr rfl
    · exact Or.inl rfl
  · rw [zup_nk (by decide), zup_nk (by decide), z9 _ _ (by omega), zup_nk (by decide), zup_nk (by decide), zup_nk (by decide), e16]
    exact hfo
  · rw [zup_nk (by decide), zup_nk (by decide), z9 _ _ (by omega), zup_nk (by decide), zup_nk (by decide), zup_nk (by decide), e17]
    exact hre
