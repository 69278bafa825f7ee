/-! ## the code of a law -/
theorem zsf_app {m : Int} : ∀ (a b : List Int) (d e x : Int), zsf m a d e → zsf m b e x → zsf m (a ++ b) d x := by
  intro a
  induction a with
  | nil =>
    intro b d e x h1 h2
    have h1 : d = e := h1
    rw [h1]
    exact h2
  | cons c a ih =>
    intro b d e x h1 h2
    show (if -101 < c then d < m ∧ -10 ≤ c ∧ zsf m (a ++ b) (d + 1) x else if c = -101 then 1 ≤ d ∧ zsf m (a ++ b) d x else 2 ≤ d ∧ -106 ≤ c ∧ zsf m (a ++ b) (d - 1) x)
    unfold zsf at h1
    by_cases c1 : -101 < c
    · rw [if_pos c1] at h1 ⊢
      exact ⟨h1.1, h1.2.1, ih _ _ _ _ h1.2.2 h2⟩
    · rw [if_neg c1] at h1 ⊢
      by_cases c2 : c = -101
      · rw [if_pos c2] at h1 ⊢
        exact ⟨h1.1, ih _ _ _ _ h1.2 h2⟩
      · rw [if_neg c2] at h1 ⊢
        exact ⟨h1.1, h1.2.1, ih _ _ _ _ h1.2.2 h2⟩
theorem zsf_join {m c d : Int} {a b : List Int} (h1 : -106 ≤ c) (h2 : c ≤ -102) (d0 : 0 ≤ d) (ha : zsf m a d (d + 1)) (hb : zsf m b (d + 1) (d + 1 + 1)) : zsf m (a ++ b ++ [c]) d (d + 1) := by
  refine zsf_app _ _ _ _ _ (zsf_app _ _ _ _ _ ha hb) ?_
  show (if -101 < c then _ else if c = -101 then _ else 2 ≤ d + 1 + 1 ∧ -106 ≤ c ∧ d + 1 + 1 - 1 = d + 1)
  rw [if_neg (by omega), if_neg (by omega)]
  omega
theorem zsf_one {m c d : Int} (h1 : -10 ≤ c) (hd : d < m) : zsf m [c] d (d + 1) := by
  show (if -101 < c then d < m ∧ -10 ≤ c ∧ d + 1 = d + 1 else _)
  rw [if_pos (by omega)]
  exact ⟨hd, h1, rfl⟩
theorem zsf_len {m : Int} {φ : Int → Int} : ∀ (c : List Int) (e : Int) (st : List Int), zsf m c st.length e → ((zev φ c st).length : Int) = e := by
  intro c
  induction c with
  | nil => intro e st h; exact h
  | cons x c ih =>
    intro e st h
    show ((zev φ c (zst1 φ x st)).length : Int) = e
    apply ih
    unfold zsf at h
    unfold zst1
    by_cases c1 : -101 < x
    · rw [if_pos c1] at h
      have e1 : ∀ y : Int, ((y :: st).length : Int) = st.length + 1 := fun y => by simp
      by_cases c0 : 0 ≤ x
      · rw [if_pos c0, e1]
        exact h.2.2
      · rw [if_neg c0, if_pos c1, e1]
        exact h.2.2
    · rw [if_neg c1] at h
      rw [if_neg (show ¬0 ≤ x by omega), if_neg c1]
      by_cases c2 : x = -101
      · rw [if_pos c2] at h ⊢
        have : ((zw (1 - st.headD 0) :: st.tail).length : Int) = st.length := by
          have := h.1
          simp
          omega
        rw [this]
        exact h.2
      · rw [if_neg c2] at h ⊢
        have : ((zjn x (st.tail.headD 0) (st.headD 0) :: st.tail.tail).length : Int) = st.length - 1 := by
          have := h.1
          simp
          omega
        rw [this]
        exact h.2.2
def pQ (M p : Int) (x : Bool × Int × List Int) : Prop := x.1 = true → (x.2.2.length : Int) ≤ x.2.1 - p ∧ ∀ d m, 0 ≤ d → d + M ≤ m → zsf m x.2.2 d (d + 1)
theorem txV_nn {u : Int → Int} {n p : Int} : 0 ≤ txV u n p := by
  unfold txV
  by_cases h2 : txK (u p) = 2 ∧ txE u n p - p ≤ 3
  · rw [if_pos h2]
    have hE : txE u n p = txR u 2 (n - (p + 1)).toNat (p + 1) := by
      unfold txE
      rw [if_neg (by omega), h2.1]
    have hrr := txR_rng (u := u) (kd := 2) (n - (p + 1)).toNat (p + 1)
    rw [← hE] at hrr
    have hj : ∀ j, p ≤ j → j < p + ((txE u n p - p).toNat : Int) → txK (u j) = 2 := fun j j0 j1 => by
      by_cases cj : j = p
      · rw [cj]; exact h2.1
      · exact hrr.2.2.1 j (by omega) (by omega)
    refine (txD_rng (txE u n p - p).toNat p 0 (by omega) hj (Int.le_refl 0) ?_).1
    rcases (by omega : (txE u n p - p).toNat = 1 ∨ (txE u n p - p).toNat = 2 ∨ (txE u n p - p).toNat = 3) with h | h | h <;> rw [h] <;> decide
  · rw [if_neg h2]
    exact Int.le_refl 0
theorem pPart_q {u : Int → Int} {n : Int} (p : Int) : pQ 1 p (pPart u n p) := by
  intro h
  have hg := pPart_go h
  have hv := txV_nn (u := u) (n := n) (p := p)
  unfold pPart at h hg ⊢
  by_cases c : txT u n p = 2
  · rw [if_pos c] at h hg ⊢
    by_cases c2 : txV u n p ≤ 999
    · rw [if_pos c2] at hg ⊢
      have hg : p < txN u n p ∧ _ := hg
      exact ⟨by show (1 : Int) ≤ txN u n p - p; omega, fun d m d0 dm => zsf_one (by omega) (by omega)⟩
    · rw [if_neg c2] at h
      exact absurd h Bool.false_ne_true
  · rw [if_neg c] at h hg ⊢
    by_cases c2 : 0 ≤ zWfc (txT u n p) ∧ zWfc (txT u n p) < 7
    · rw [if_pos c2] at hg ⊢
      have hg : p < txN u n p ∧ _ := hg
      exact ⟨by show (1 : Int) ≤ txN u n p - p; omega, fun d m d0 dm => zsf_one (by omega) (by omega)⟩
    · rw [if_neg c2] at h
      exact absurd h Bool.false_ne_true
theorem pSumL_q {u : Int → Int} {n : Int} : ∀ (k : Nat) (p : Int) (c : List Int), p ≤ n → (pSumL u n k p c).1 = true → ((pSumL u n k p c).2.2.length : Int) ≤ c.length + ((pSumL u n k p c).2.1 - p) ∧ ∀ d m, 0 ≤ d → d + 1 + 1 ≤ m → zsf m c d (d + 1) → zsf m (pSumL u n k p c).2.2 d (d + 1) := by
  intro k
  induction k with
  | zero => intro p c _ _; exact ⟨by show (c.length : Int) ≤ c.length + (p - p); omega, fun d m _ _ h => h⟩
  | succ k ih =>
    intro p c hp h
    have e : pSumL u n (k + 1) p c = if txT u n p = 8 then (if (pPart u n (txN u n p)).1 = true then pSumL u n k (pPart u n (txN u n p)).2.1 (c ++ (pPart u n (txN u n p)).2.2 ++ [-106]) else (false, (pPart u n (txN u n p)).2.1, [])) else (true, p, c) := rfl
    rw [e] at h ⊢
    by_cases hT : txT u n p = 8
    · rw [if_pos hT] at h ⊢
      have hN := txN_rng (u := u) (txT_lt (u := u) (n := n) (p := p) (by omega))
      by_cases hx : (pPart u n (txN u n p)).1 = true
      · rw [if_pos hx] at h ⊢
        have hg := pPart_go hx
        have hq := pPart_q _ hx
        have := ih _ _ hg.2 h
        refine ⟨?_, fun d m d0 dm hc => this.2 d m d0 dm ?_⟩
        · have h1 := this.1
          have h2 := hq.1
          have e2 : ((c ++ (pPart u n (txN u n p)).2.2 ++ [-106]).length : Int) = c.length + (pPart u n (txN u n p)).2.2.length + 1 := by simp; omega
          rw [e2] at h1
          omega
        · exact zsf_join (by decide) (by decide) d0 hc (hq.2 (d + 1) m (by omega) (by omega))
      · rw [if_neg hx] at h
        exact absurd h Bool.false_ne_true
    · rw [if_neg hT]
      exact ⟨by show (c.length : Int) ≤ c.length + (p - p); omega, fun d m _ _ h => h⟩
theorem pSum_go {u : Int → Int} {n : Int} : pGoA n (pSum u n) := by
  intro p h
  unfold pSum pB at h ⊢
  by_cases hx : (pPart u n p).1 = true
  · rw [if_pos hx] at h ⊢
    have hg := pPart_go hx
    have := pSumL_go _ _ _ hg.2 h
    exact ⟨Int.lt_of_lt_of_le hg.1 this.1, this.2⟩
  · rw [if_neg hx] at h
    exact absurd h Bool.false_ne_true
theorem pSum_q {u : Int → Int} {n : Int} (p : Int) : pQ 2 p (pSum u n p) := by
  intro h
  have e : pSum u n p = if (pPart u n p).1 = true then pSumL u n (n - (pPart u n p).2.1).toNat (pPart u n p).2.1 (pPart u n p).2.2 else (false, (pPart u n p).2.1, []) := rfl
  rw [e] at h ⊢
  by_cases hx : (pPart u n p).1 = true
  · rw [if_pos hx] at h ⊢
    have hg := pPart_go hx
    have hq := pPart_q p hx
    have := pSumL_q _ _ _ hg.2 h
    exact ⟨by omega, fun d m d0 dm => this.2 d m d0 (by omega) (hq.2 d m d0 (by omega))⟩
  · rw [if_neg hx] at h
    exact absurd h Bool.false_ne_true
theorem pCmp_q {u : Int → Int} {n : Int} (p : Int) : pQ 3 p (pCmp u n p) := by
  intro h
  have e : pCmp u n p = if (pSum u n p).1 = true then (if txT u n (pSum u n p).2.1 = 6 ∨ txT u n (pSum u n p).2.1 = 7 then (if (pSum u n (txN u n (pSum u n p).2.1)).1 = true then (true, (pSum u n (txN u n (pSum u n p).2.1)).2.1, (pSum u n p).2.2 ++ (pSum u n (txN u n (pSum u n p).2.1)).2.2 ++ [if txT u n (pSum u n p).2.1 = 6 then -104 else -105]) else (false, (pSum u n (txN u n (pSum u n p).2.1)).2.1, [])) else pNo (pSum u n p).2.1) else (false, (pSum u n p).2.1, []) := rfl
  rw [e] at h ⊢
  by_cases hx : (pSum u n p).1 = true
  · rw [if_pos hx] at h ⊢
    have hg := pSum_go _ hx
    have hq := pSum_q p hx
    generalize (pSum u n p).2.1 = p1 at *
    by_cases hT : txT u n p1 = 6 ∨ txT u n p1 = 7
    · rw [if_pos hT] at h ⊢
      have hN := txN_rng (u := u) (txT_lt (u := u) (n := n) (p := p1) (by omega))
      by_cases hx2 : (pSum u n (txN u n p1)).1 = true
      · rw [if_pos hx2]
        have hq2 := pSum_q _ hx2
        refine ⟨?_, fun d m d0 dm => ?_⟩
        · have e2 : (((pSum u n p).2.2 ++ (pSum u n (txN u n p1)).2.2 ++ [if txT u n p1 = 6 then (-104 : Int) else -105]).length : Int) = (pSum u n p).2.2.length + (pSum u n (txN u n p1)).2.2.length + 1 := by simp; omega
          have h1 := hq.1
          have h2 := hq2.1
          show (((pSum u n p).2.2 ++ (pSum u n (txN u n p1)).2.2 ++ [if txT u n p1 = 6 then (-104 : Int) else -105]).length : Int) ≤ (pSum u n (txN u n p1)).2.1 - p
          rw [e2]
          omega
        · exact zsf_join (by split <;> decide) (by split <;> decide) d0 (hq.2 d m d0 (by omega)) (hq2.2 (d + 1) m (by omega) (by omega))
      · rw [if_neg hx2] at h
        exact absurd h Bool.false_ne_true
    · rw [if_neg hT] at h
      exact absurd h Bool.false_ne_true
  · rw [if_neg hx] at h
    exact absurd h Bool.false_ne_true
theorem pPlain_q {u : Int → Int} {n : Int} (p : Int) : pQ 3 p (pPlain u n p) := by
  intro h
  have hg := pPlain_go _ h
  have hw := txT_rng (u := u) (n := n) (p := p)
  unfold pPlain at h hg ⊢
  by_cases c : 7 ≤ zWfc (txT u n p)
  · rw [if_pos c] at hg ⊢
    have hg : p < txN u n p ∧ _ := hg
    have h9 : zWfc (txT u n p) ≤ 9 := by
      rcases (txF7 hw.1 hw.2).2 c with h | h | h <;> rw [h] <;> decide
    exact ⟨by show (1 : Int) ≤ txN u n p - p; omega, fun d m d0 dm => zsf_one (by omega) (by omega)⟩
  · rw [if_neg c] at h ⊢
    exact pCmp_q p h
theorem pEvL_q {u : Int → Int} {n : Int} {A : Int → Bool × Int × List Int} {M : Int} (hgo : pGoA n A) (hA : ∀ p, pQ M p (A p)) : ∀ (k : Nat) (p : Int) (c : List Int), p ≤ n → (pEvL u n A k p c).1 = true → ((pEvL u n A k p c).2.2.length : Int) ≤ c.length + ((pEvL u n A k p c).2.1 - p) ∧ ∀ d m, 0 ≤ d → d + 1 + M ≤ m → zsf m c d (d + 1) → zsf m (pEvL u n A k p c).2.2 d (d + 1) := by
  intro k
  induction k with
  | zero => intro p c _ _; exact ⟨by show (c.length : Int) ≤ c.length + (p - p); omega, fun d m _ _ h => h⟩
  | succ k ih =>
    intro p c hp h
    have e : pEvL u n A (k + 1) p c = if txT u n p = 24 then (if (A (txN u n p)).1 = true then pEvL u n A k (A (txN u n p)).2.1 (c ++ (A (txN u n p)).2.2 ++ [-102]) else (false, (A (txN u n p)).2.1, [])) else (true, p, c) := rfl
    rw [e] at h ⊢
    by_cases hT : txT u n p = 24
    · rw [if_pos hT] at h ⊢
      have hN := txN_rng (u := u) (txT_lt (u := u) (n := n) (p := p) (by omega))
      by_cases hx : (A (txN u n p)).1 = true
      · rw [if_pos hx] at h ⊢
        have hg := hgo _ hx
        have hq := hA _ hx
        have := ih _ _ hg.2 h
        refine ⟨?_, fun d m d0 dm hc => this.2 d m d0 dm ?_⟩
        · have h1 := this.1
          have h2 := hq.1
          have e2 : ((c ++ (A (txN u n p)).2.2 ++ [-102]).length : Int) = c.length + (A (txN u n p)).2.2.length + 1 := by simp; omega
          rw [e2] at h1
          omega
        · exact zsf_join (by decide) (by decide) d0 hc (hq.2 (d + 1) m (by omega) (by omega))
      · rw [if_neg hx] at h
        exact absurd h Bool.false_ne_true
    · rw [if_neg hT]
      exact ⟨by show (c.length : Int) ≤ c.length + (p - p); omega, fun d m _ _ h => h⟩
theorem pEv_q {u : Int → Int} {n : Int} {A : Int → Bool × Int × List Int} {M : Int} (hgo : pGoA n A) (hA : ∀ p, pQ M p (A p)) (p : Int) : pQ (M + 1) p (pEv u n A p) := by
  intro h
  have e : pEv u n A p = if (A p).1 = true then pEvL u n A (n - (A p).2.1).toNat (A p).2.1 (A p).2.2 else (false, (A p).2.1, []) := rfl
  rw [e] at h ⊢
  by_cases hx : (A p).1 = true
  · rw [if_pos hx] at h ⊢
    have hg := hgo _ hx
    have hq := hA p hx
    have := pEvL_q hgo hA _ _ _ hg.2 h
    exact ⟨by omega, fun d m d0 dm => this.2 d m d0 (by omega) (hq.2 d m d0 (by omega))⟩
  · rw [if_neg hx] at h
    exact absurd h Bool.false_ne_true
theorem pSoL_q {u : Int → Int} {n : Int} {A : Int → Bool × Int × List Int} {M : Int} (hgo : pGoA n A) (hA : ∀ p, pQ M p (A p)) : ∀ (k : Nat) (p : Int) (c : List Int), p ≤ n → (pSoL u n A k p c).1 = true → ((pSoL u n A k p c).2.2.length : Int) ≤ c.length + ((pSoL u n A k p c).2.1 - p) ∧ ∀ d m, 0 ≤ d → d + 1 + (M + 1) ≤ m → zsf m c d (d + 1) → zsf m (pSoL u n A k p c).2.2 d (d + 1) := by
  intro k
  induction k with
  | zero => intro p c _ _; exact ⟨by show (c.length : Int) ≤ c.length + (p - p); omega, fun d m _ _ h => h⟩
  | succ k ih =>
    intro p c hp h
    have e : pSoL u n A (k + 1) p c = if txT u n p = 23 then (if (pEv u n A (txN u n p)).1 = true then pSoL u n A k (pEv u n A (txN u n p)).2.1 (c ++ (pEv u n A (txN u n p)).2.2 ++ [-103]) else (false, (pEv u n A (txN u n p)).2.1, [])) else (true, p, c) := rfl
    rw [e] at h ⊢
    by_cases hT : txT u n p = 23
    · rw [if_pos hT] at h ⊢
      have hN := txN_rng (u := u) (txT_lt (u := u) (n := n) (p := p) (by omega))
      by_cases hx : (pEv u n A (txN u n p)).1 = true
      · rw [if_pos hx] at h ⊢
        have hg := pEv_go hgo _ hx
        have hq := pEv_q hgo hA _ hx
        have := ih _ _ hg.2 h
        refine ⟨?_, fun d m d0 dm hc => this.2 d m d0 dm ?_⟩
        · have h1 := this.1
          have h2 := hq.1
          have e2 : ((c ++ (pEv u n A (txN u n p)).2.2 ++ [-103]).length : Int) = c.length + (pEv u n A (txN u n p)).2.2.length + 1 := by simp; omega
          rw [e2] at h1
          omega
        · exact zsf_join (by decide) (by decide) d0 hc (hq.2 (d + 1) m (by omega) (by omega))
      · rw [if_neg hx] at h
        exact absurd h Bool.false_ne_true
    · rw [if_neg hT]
      exact ⟨by show (c.length : Int) ≤ c.length + (p - p); omega, fun d m _ _ h => h⟩
theorem pSo_q {u : Int → Int} {n : Int} {A : Int → Bool × Int × List Int} {M : Int} (hgo : pGoA n A) (hA : ∀ p, pQ M p (A p)) (p : Int) : pQ (M + 2) p (pSo u n A p) := by
  intro h
  have e : pSo u n A p = if (pEv u n A p).1 = true then pSoL u n A (n - (pEv u n A p).2.1).toNat (pEv u n A p).2.1 (pEv u n A p).2.2 else (false, (pEv u n A p).2.1, []) := rfl
  rw [e] at h ⊢
  by_cases hx : (pEv u n A p).1 = true
  · rw [if_pos hx] at h ⊢
    have hg := pEv_go hgo _ hx
    have hq := pEv_q hgo hA p hx
    have := pSoL_q hgo hA _ _ _ hg.2 h
    exact ⟨by omega, fun d m d0 dm => this.2 d m d0 (by omega) (hq.2 d m d0 (by omega))⟩
  · rw [if_neg hx] at h
    exact absurd h Bool.false_ne_true
theorem pAt_q {u : Int → Int} {n : Int} : ∀ (r : Nat) (p : Int), pQ (3 + 2 * r) p (pAt u n r p) := by
  intro r
  induction r with
  | zero =>
    intro p h
    have e : pAt u n 0 p = if txT u n p = 25 ∨ txT u n p = 4 then pNo p else pPlain u n p := rfl
    rw [e] at h ⊢
    by_cases c : txT u n p = 25 ∨ txT u n p = 4
    · rw [if_pos c] at h
      exact absurd h Bool.false_ne_true
    · rw [if_neg c] at h ⊢
      exact pPlain_q p h
  | succ r ih =>
    intro p h
    have e : pAt u n (r + 1) p = if txT u n p = 25 then (if (pAt u n r (txN u n p)).1 = true then (true, (pAt u n r (txN u n p)).2.1, (pAt u n r (txN u n p)).2.2 ++ [-101]) else (false, (pAt u n r (txN u n p)).2.1, [])) else if txT u n p = 4 then (if (pSo u n (pAt u n r) (txN u n p)).1 = true then (if txT u n (pSo u n (pAt u n r) (txN u n p)).2.1 = 5 then (true, txN u n (pSo u n (pAt u n r) (txN u n p)).2.1, (pSo u n (pAt u n r) (txN u n p)).2.2) else pNo (pSo u n (pAt u n r) (txN u n p)).2.1) else (false, (pSo u n (pAt u n r) (txN u n p)).2.1, [])) else pPlain u n p := rfl
    rw [e] at h ⊢
    by_cases c1 : txT u n p = 25
    · rw [if_pos c1] at h ⊢
      have hN := txN_rng (u := u) (txT_lt (u := u) (n := n) (p := p) (by omega))
      by_cases hx : (pAt u n r (txN u n p)).1 = true
      · rw [if_pos hx]
        have hq := ih _ hx
        refine ⟨?_, fun d m d0 dm => zsf_app _ _ _ _ _ (hq.2 d m d0 (by omega)) ?_⟩
        · have e2 : (((pAt u n r (txN u n p)).2.2 ++ [(-101 : Int)]).length : Int) = (pAt u n r (txN u n p)).2.2.length + 1 := by simp
          have := hq.1
          show (((pAt u n r (txN u n p)).2.2 ++ [(-101 : Int)]).length : Int) ≤ (pAt u n r (txN u n p)).2.1 - p
          rw [e2]
          omega
        · show (if (-101 : Int) < -101 then _ else if (-101 : Int) = -101 then 1 ≤ d + 1 ∧ d + 1 = d + 1 else _)
          rw [if_neg (by decide), if_pos rfl]
          omega
      · rw [if_neg hx] at h
        exact absurd h Bool.false_ne_true
    · rw [if_neg c1] at h ⊢
      by_cases c2 : txT u n p = 4
      · rw [if_pos c2] at h ⊢
        have hN := txN_rng (u := u) (txT_lt (u := u) (n := n) (p := p) (by omega))
        by_cases hx : (pSo u n (pAt u n r) (txN u n p)).1 = true
        · rw [if_pos hx] at h ⊢
          have hq := pSo_q (pAt_go r) ih _ hx
          generalize (pSo u n (pAt u n r) (txN u n p)).2.1 = p1 at *
          by_cases c5 : txT u n p1 = 5
          · rw [if_pos c5]
            have hN1 := txN_rng (u := u) (txT_lt (u := u) (n := n) (p := p1) (by omega))
            refine ⟨?_, fun d m d0 dm => hq.2 d m d0 (by omega)⟩
            have := hq.1
            show ((pSo u n (pAt u n r) (txN u n p)).2.2.length : Int) ≤ txN u n p1 - p
            omega
          · rw [if_neg c5] at h
            exact absurd h Bool.false_ne_true
        · rw [if_neg hx] at h
          exact absurd h Bool.false_ne_true
      · rw [if_neg c2] at h ⊢
        have := pPlain_q p h
        exact ⟨this.1, fun d m d0 dm => this.2 d m d0 (by omega)⟩
theorem zCok_so {u : Int → Int} {n p : Int} (h : (pSo u n (pAt u n 6) p).1 = true) : zCok (pSo u n (pAt u n 6) p).2.2 := by
  have hq := pSo_q (pAt_go 6) (pAt_q 6) p h
  have hs := hq.2 0 64 (Int.le_refl 0) (by decide)
  refine Or.inr ⟨hs, fun φ => ?_⟩
  have hl := zsf_len (φ := φ) _ _ [] hs
  cases he : zev φ (pSo u n (pAt u n 6) p).2.2 [] with
  | nil =>
    rw [he] at hl
    exact absurd hl (by decide)
  | cons v l =>
    rw [he] at hl
    cases l with
    | nil => exact ⟨v, rfl⟩
    | cons w l =>
      exfalso
      simp at hl
      omega
