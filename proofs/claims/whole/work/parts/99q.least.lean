/-! ## units put to lines: the least greatest sum -/
def lgMx (R : Int → Int) : Nat → Int → Int → Int
  | 0, _, x => x
  | j + 1, i, x => lgMx R j (i + 1) (if x ≤ R i then R i else x)
def lgF (S : Int → Int) (L : (Int → Int) → Int) (R : Int → Int) (a : Int) : Nat → Int → Int → Int
  | 0, _, x => x
  | j + 1, i, x => lgF S L R a j (i + 1) (if S i = 2 then (if L (zup1 R i (R i + a)) ≤ x then L (zup1 R i (R i + a)) else x) else x)
def LG (S A : Int → Int) (m : Nat) : Nat → Int → (Int → Int) → Int
  | 0, _, R => lgMx R m 0 0
  | r + 1, k, R => lgF S (LG S A m r (k + 1)) R (A k) m 0 2000000000
def zcnt (S : Int → Int) : Nat → Int → Int
  | 0, _ => 0
  | j + 1, i => (if S i = 2 then 1 else 0) + zcnt S j (i + 1)
def zsIn (S R : Int → Int) : Nat → Int → Int
  | 0, _ => 0
  | j + 1, i => (if S i = 2 then R i else 0) + zsIn S R j (i + 1)
theorem lgMx_le {R : Int → Int} {M : Int} : ∀ (j : Nat) (i x : Int), lgMx R j i x ≤ M ↔ (x ≤ M ∧ ∀ l, i ≤ l → l < i + j → R l ≤ M) := by
  intro j
  induction j with
  | zero =>
    intro i x
    exact ⟨fun h => ⟨h, fun l h1 h2 => by omega⟩, fun h => h.1⟩
  | succ j ih =>
    intro i x
    show lgMx R j (i + 1) (if x ≤ R i then R i else x) ≤ M ↔ _
    rw [ih]
    constructor
    · rintro ⟨h1, h2⟩
      refine ⟨by split at h1 <;> omega, fun l l0 l1 => ?_⟩
      by_cases c : l = i
      · rw [c]; split at h1 <;> omega
      · exact h2 l (by omega) (by omega)
    · rintro ⟨h1, h2⟩
      refine ⟨?_, fun l l0 l1 => h2 l (by omega) (by omega)⟩
      have := h2 i (by omega) (by omega)
      split <;> omega
theorem lgF_le {S : Int → Int} {L : (Int → Int) → Int} {R : Int → Int} {a M : Int} : ∀ (j : Nat) (i x : Int), lgF S L R a j i x ≤ M ↔ (x ≤ M ∨ ∃ l, i ≤ l ∧ l < i + j ∧ S l = 2 ∧ L (zup1 R l (R l + a)) ≤ M) := by
  intro j
  induction j with
  | zero =>
    intro i x
    exact ⟨fun h => Or.inl h, fun h => by
      rcases h with h | ⟨l, h1, h2, _⟩
      · exact h
      · omega⟩
  | succ j ih =>
    intro i x
    show lgF S L R a j (i + 1) (if S i = 2 then (if L (zup1 R i (R i + a)) ≤ x then L (zup1 R i (R i + a)) else x) else x) ≤ M ↔ _
    rw [ih]
    constructor
    · rintro (h | ⟨l, h1, h2, h3, h4⟩)
      · by_cases s : S i = 2
        · rw [if_pos s] at h
          by_cases c : L (zup1 R i (R i + a)) ≤ x
          · rw [if_pos c] at h
            exact Or.inr ⟨i, by omega, by omega, s, h⟩
          · rw [if_neg c] at h
            exact Or.inl h
        · rw [if_neg s] at h
          exact Or.inl h
      · exact Or.inr ⟨l, by omega, by omega, h3, h4⟩
    · rintro (h | ⟨l, h1, h2, h3, h4⟩)
      · refine Or.inl ?_
        split
        · split <;> omega
        · exact h
      · by_cases c : l = i
        · subst c
          refine Or.inl ?_
          rw [if_pos h3]
          split <;> omega
        · exact Or.inr ⟨l, by omega, by omega, h3, h4⟩
theorem LG_s {S A : Int → Int} {m r : Nat} {k : Int} {R : Int → Int} {M : Int} (hM : M < 2000000000) : LG S A m (r + 1) k R ≤ M ↔ ∃ l : Int, 0 ≤ l ∧ l < m ∧ S l = 2 ∧ LG S A m r (k + 1) (zup1 R l (R l + A k)) ≤ M := by
  show lgF S (LG S A m r (k + 1)) R (A k) m 0 2000000000 ≤ M ↔ _
  rw [lgF_le]
  constructor
  · rintro (h | ⟨l, h1, h2, h3, h4⟩)
    · omega
    · exact ⟨l, h1, by omega, h3, h4⟩
  · rintro ⟨l, h1, h2, h3, h4⟩
    exact Or.inr ⟨l, h1, by omega, h3, h4⟩
theorem LG_ge {S A : Int → Int} {m : Nat} {M : Int} (hM : M < 2000000000) : ∀ (r : Nat) (k : Int) (R : Int → Int), (∀ j, k ≤ j → j < k + r → 0 ≤ A j) → LG S A m r k R ≤ M → 0 ≤ M ∧ ∀ l : Int, 0 ≤ l → l < m → R l ≤ M := by
  intro r
  induction r with
  | zero =>
    intro k R _ h
    have h2 := (lgMx_le m 0 0).mp h
    exact ⟨h2.1, fun l l0 l1 => h2.2 l l0 (by omega)⟩
  | succ r ih =>
    intro k R hA h
    obtain ⟨l, h1, h2, h3, h4⟩ := (LG_s hM).mp h
    have h5 := ih (k + 1) _ (fun j j0 j1 => hA j (by omega) (by omega)) h4
    have ha := hA k (by omega) (by omega)
    refine ⟨h5.1, fun o o0 o1 => ?_⟩
    have h6 := h5.2 o o0 o1
    by_cases c : o = l
    · rw [c, zup1_eq rfl] at h6
      rw [c]
      omega
    · rw [zup1_ne c] at h6
      exact h6
theorem zsIn_le {S R : Int → Int} {M : Int} : ∀ (j : Nat) (i : Int), (∀ l, i ≤ l → l < i + j → R l ≤ M) → zsIn S R j i ≤ M * zcnt S j i := by
  intro j
  induction j with
  | zero => intro i _; show (0 : Int) ≤ M * 0; omega
  | succ j ih =>
    intro i h
    have h1 := ih (i + 1) (fun l l0 l1 => h l (by omega) (by omega))
    have h2 := h i (by omega) (by omega)
    show (if S i = 2 then R i else 0) + zsIn S R j (i + 1) ≤ M * ((if S i = 2 then 1 else 0) + zcnt S j (i + 1))
    rw [Int.mul_add]
    by_cases s : S i = 2
    · rw [if_pos s, if_pos s, Int.mul_one]
      omega
    · rw [if_neg s, if_neg s, Int.mul_zero]
      omega
theorem zsIn_out {S R : Int → Int} {l v : Int} : ∀ (j : Nat) (i : Int), (l < i ∨ i + j ≤ l) → zsIn S (zup1 R l v) j i = zsIn S R j i := by
  intro j
  induction j with
  | zero => intro i _; rfl
  | succ j ih =>
    intro i h
    show (if S i = 2 then zup1 R l v i else 0) + zsIn S (zup1 R l v) j (i + 1) = (if S i = 2 then R i else 0) + zsIn S R j (i + 1)
    rw [ih (i + 1) (by omega), zup1_ne (by omega)]
theorem zsIn_up {S R : Int → Int} {l a : Int} (s : S l = 2) : ∀ (j : Nat) (i : Int), i ≤ l → l < i + j → zsIn S (zup1 R l (R l + a)) j i = zsIn S R j i + a := by
  intro j
  induction j with
  | zero => intro i h1 h2; omega
  | succ j ih =>
    intro i h1 h2
    show (if S i = 2 then zup1 R l (R l + a) i else 0) + zsIn S (zup1 R l (R l + a)) j (i + 1) = (if S i = 2 then R i else 0) + zsIn S R j (i + 1) + a
    by_cases c : i = l
    · rw [c, zsIn_out j (l + 1) (by omega), if_pos s, if_pos s, zup1_eq rfl]
      omega
    · rw [ih (i + 1) (by omega) (by omega), zup1_ne c]
      omega
theorem LG_all {S A : Int → Int} {m : Nat} {M : Int} (hM : M < 2000000000) : ∀ (r : Nat) (k : Int) (R : Int → Int), LG S A m r k R ≤ M → zsIn S R m 0 + zsum A r k ≤ M * zcnt S m 0 := by
  intro r
  induction r with
  | zero =>
    intro k R h
    have h2 := (lgMx_le m 0 0).mp h
    have h3 := zsIn_le (S := S) m 0 (fun l l0 l1 => h2.2 l l0 l1)
    show zsIn S R m 0 + 0 ≤ _
    omega
  | succ r ih =>
    intro k R h
    obtain ⟨l, h1, h2, h3, h4⟩ := (LG_s hM).mp h
    have h5 := ih (k + 1) _ h4
    rw [zsIn_up h3 m 0 h1 (by omega)] at h5
    show zsIn S R m 0 + (A k + zsum A r (k + 1)) ≤ _
    omega
theorem LG_up {S A : Int → Int} {m : Nat} {M o : Int} (hM : M < 2000000000) (M0 : 0 ≤ M) (ho : 0 ≤ o ∧ o < m ∧ S o = 2) : ∀ (r : Nat) (k : Int) (R : Int → Int), (∀ j, k ≤ j → j < k + r → 0 ≤ A j) → (∀ l : Int, 0 ≤ l → l < m → R l + zsum A r k ≤ M) → LG S A m r k R ≤ M := by
  intro r
  induction r with
  | zero =>
    intro k R hA h
    exact (lgMx_le m 0 0).mpr ⟨M0, fun l l0 l1 => by have : R l + 0 ≤ M := h l l0 (by omega); omega⟩
  | succ r ih =>
    intro k R hA h
    have un : zsum A (r + 1) k = A k + zsum A r (k + 1) := rfl
    have ha := hA k (by omega) (by omega)
    refine (LG_s hM).mpr ⟨o, ho.1, ho.2.1, ho.2.2, ih (k + 1) _ (fun j j0 j1 => hA j (by omega) (by omega)) (fun l l0 l1 => ?_)⟩
    have := h l l0 l1
    by_cases c : l = o
    · rw [c, zup1_eq rfl]
      rw [c] at this
      omega
    · rw [zup1_ne c]
      omega
/-! ### the first way -/
def fiP (S A : Int → Int) (m r : Nat) (k : Int) (R : Int → Int) (M : Int) : Nat → Int → Int
  | 0, i => i
  | j + 1, i => if S i = 2 ∧ LG S A m r (k + 1) (zup1 R i (R i + A k)) ≤ M then i else fiP S A m r k R M j (i + 1)
def chP (S A : Int → Int) (m : Nat) (M : Int) : Nat → Int → (Int → Int) → Int → Int
  | 0, _, _, _ => -1
  | r + 1, k, R, j => if j = k then fiP S A m r k R M m 0 else chP S A m M r (k + 1) (zup1 R (fiP S A m r k R M m 0) (R (fiP S A m r k R M m 0) + A k)) j
theorem fiP_is {S A : Int → Int} {m r : Nat} {k : Int} {R : Int → Int} {M : Int} : ∀ (j : Nat) (i l : Int), i ≤ l → l < i + j → S l = 2 → LG S A m r (k + 1) (zup1 R l (R l + A k)) ≤ M → i ≤ fiP S A m r k R M j i ∧ fiP S A m r k R M j i < i + j ∧ S (fiP S A m r k R M j i) = 2 ∧ LG S A m r (k + 1) (zup1 R (fiP S A m r k R M j i) (R (fiP S A m r k R M j i) + A k)) ≤ M := by
  intro j
  induction j with
  | zero => intro i l h1 h2 _ _; omega
  | succ j ih =>
    intro i l h1 h2 h3 h4
    by_cases c : S i = 2 ∧ LG S A m r (k + 1) (zup1 R i (R i + A k)) ≤ M
    · have e : fiP S A m r k R M (j + 1) i = i := if_pos c
      rw [e]
      exact ⟨by omega, by omega, c.1, c.2⟩
    · have e : fiP S A m r k R M (j + 1) i = fiP S A m r k R M j (i + 1) := if_neg c
      rw [e]
      by_cases cl : l = i
      · subst cl
        exact absurd ⟨h3, h4⟩ c
      · have := ih (i + 1) l (by omega) (by omega) h3 h4
        exact ⟨by omega, by omega, this.2.2⟩
theorem fiP_ok {S A : Int → Int} {m r : Nat} {k : Int} {R : Int → Int} {M : Int} (hM : M < 2000000000) (h : LG S A m (r + 1) k R ≤ M) : 0 ≤ fiP S A m r k R M m 0 ∧ fiP S A m r k R M m 0 < m ∧ S (fiP S A m r k R M m 0) = 2 ∧ LG S A m r (k + 1) (zup1 R (fiP S A m r k R M m 0) (R (fiP S A m r k R M m 0) + A k)) ≤ M := by
  obtain ⟨l, h1, h2, h3, h4⟩ := (LG_s hM).mp h
  have := fiP_is (S := S) (A := A) (m := m) (r := r) (k := k) (R := R) (M := M) m 0 l h1 (by omega) h3 h4
  exact ⟨this.1, by omega, this.2.2⟩
/-! ### how many lines are in -/
theorem gIn_cnt {g : Int → Int} {m : Nat} (hm : m ≤ 4) : zPoc (gIn g 2 m 0 0) = zcnt (fun i => g (10 + 265 * i + 0)) m 0 ∧ (gIn g 2 m 0 0 = 0 ↔ zcnt (fun i => g (10 + 265 * i + 0)) m 0 = 0) := by
  rcases (by omega : m = 0 ∨ m = 1 ∨ m = 2 ∨ m = 3 ∨ m = 4) with rfl | rfl | rfl | rfl | rfl
  · show zPoc 0 = 0 ∧ ((0 : Int) = 0 ↔ (0 : Int) = 0)
    decide +kernel

  · show zPoc (zor (0) (if g (10 + 265 * 0 + 0) = 2 then zshl 1 (0) else 0)) = (if g (10 + 265 * 0 + 0) = 2 then 1 else 0) + (0) ∧ (zor (0) (if g (10 + 265 * 0 + 0) = 2 then zshl 1 (0) else 0) = 0 ↔ (if g (10 + 265 * 0 + 0) = 2 then 1 else 0) + (0) = 0)
    generalize g (10 + 265 * 0 + 0) = s0
    by_cases c0 : s0 = 2 <;> simp only [c0, if_true, if_false] <;> decide +kernel
  · show zPoc (zor (zor (0) (if g (10 + 265 * 0 + 0) = 2 then zshl 1 (0) else 0)) (if g (10 + 265 * (0 + 1) + 0) = 2 then zshl 1 (0 + 1) else 0)) = (if g (10 + 265 * 0 + 0) = 2 then 1 else 0) + ((if g (10 + 265 * (0 + 1) + 0) = 2 then 1 else 0) + (0)) ∧ (zor (zor (0) (if g (10 + 265 * 0 + 0) = 2 then zshl 1 (0) else 0)) (if g (10 + 265 * (0 + 1) + 0) = 2 then zshl 1 (0 + 1) else 0) = 0 ↔ (if g (10 + 265 * 0 + 0) = 2 then 1 else 0) + ((if g (10 + 265 * (0 + 1) + 0) = 2 then 1 else 0) + (0)) = 0)
    generalize g (10 + 265 * 0 + 0) = s0
    generalize g (10 + 265 * (0 + 1) + 0) = s1
    by_cases c0 : s0 = 2 <;> by_cases c1 : s1 = 2 <;> simp only [c0, c1, if_true, if_false] <;> decide +kernel
  · show zPoc (zor (zor (zor (0) (if g (10 + 265 * 0 + 0) = 2 then zshl 1 (0) else 0)) (if g (10 + 265 * (0 + 1) + 0) = 2 then zshl 1 (0 + 1) else 0)) (if g (10 + 265 * (0 + 1 + 1) + 0) = 2 then zshl 1 (0 + 1 + 1) else 0)) = (if g (10 + 265 * 0 + 0) = 2 then 1 else 0) + ((if g (10 + 265 * (0 + 1) + 0) = 2 then 1 else 0) + ((if g (10 + 265 * (0 + 1 + 1) + 0) = 2 then 1 else 0) + (0))) ∧ (zor (zor (zor (0) (if g (10 + 265 * 0 + 0) = 2 then zshl 1 (0) else 0)) (if g (10 + 265 * (0 + 1) + 0) = 2 then zshl 1 (0 + 1) else 0)) (if g (10 + 265 * (0 + 1 + 1) + 0) = 2 then zshl 1 (0 + 1 + 1) else 0) = 0 ↔ (if g (10 + 265 * 0 + 0) = 2 then 1 else 0) + ((if g (10 + 265 * (0 + 1) + 0) = 2 then 1 else 0) + ((if g (10 + 265 * (0 + 1 + 1) + 0) = 2 then 1 else 0) + (0))) = 0)
    generalize g (10 + 265 * 0 + 0) = s0
    generalize g (10 + 265 * (0 + 1) + 0) = s1
    generalize g (10 + 265 * (0 + 1 + 1) + 0) = s2
    by_cases c0 : s0 = 2 <;> by_cases c1 : s1 = 2 <;> by_cases c2 : s2 = 2 <;> simp only [c0, c1, c2, if_true, if_false] <;> decide +kernel
  · show zPoc (zor (zor (zor (zor (0) (if g (10 + 265 * 0 + 0) = 2 then zshl 1 (0) else 0)) (if g (10 + 265 * (0 + 1) + 0) = 2 then zshl 1 (0 + 1) else 0)) (if g (10 + 265 * (0 + 1 + 1) + 0) = 2 then zshl 1 (0 + 1 + 1) else 0)) (if g (10 + 265 * (0 + 1 + 1 + 1) + 0) = 2 then zshl 1 (0 + 1 + 1 + 1) else 0)) = (if g (10 + 265 * 0 + 0) = 2 then 1 else 0) + ((if g (10 + 265 * (0 + 1) + 0) = 2 then 1 else 0) + ((if g (10 + 265 * (0 + 1 + 1) + 0) = 2 then 1 else 0) + ((if g (10 + 265 * (0 + 1 + 1 + 1) + 0) = 2 then 1 else 0) + (0)))) ∧ (zor (zor (zor (zor (0) (if g (10 + 265 * 0 + 0) = 2 then zshl 1 (0) else 0)) (if g (10 + 265 * (0 + 1) + 0) = 2 then zshl 1 (0 + 1) else 0)) (if g (10 + 265 * (0 + 1 + 1) + 0) = 2 then zshl 1 (0 + 1 + 1) else 0)) (if g (10 + 265 * (0 + 1 + 1 + 1) + 0) = 2 then zshl 1 (0 + 1 + 1 + 1) else 0) = 0 ↔ (if g (10 + 265 * 0 + 0) = 2 then 1 else 0) + ((if g (10 + 265 * (0 + 1) + 0) = 2 then 1 else 0) + ((if g (10 + 265 * (0 + 1 + 1) + 0) = 2 then 1 else 0) + ((if g (10 + 265 * (0 + 1 + 1 + 1) + 0) = 2 then 1 else 0) + (0)))) = 0)
    generalize g (10 + 265 * 0 + 0) = s0
    generalize g (10 + 265 * (0 + 1) + 0) = s1
    generalize g (10 + 265 * (0 + 1 + 1) + 0) = s2
    generalize g (10 + 265 * (0 + 1 + 1 + 1) + 0) = s3
    by_cases c0 : s0 = 2 <;> by_cases c1 : s1 = 2 <;> by_cases c2 : s2 = 2 <;> by_cases c3 : s3 = 2 <;> simp only [c0, c1, c2, c3, if_true, if_false] <;> decide +kernel
