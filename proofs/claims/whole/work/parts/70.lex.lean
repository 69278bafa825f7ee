/-! ## things of a text -/
def txK (c : Int) : Int := if 97 ≤ c ∧ c ≤ 122 then 1 else if 48 ≤ c ∧ c ≤ 57 then 2 else 0
def txR (u : Int → Int) (kd : Int) : Nat → Int → Int
  | 0, p => p
  | k + 1, p => if txK (u p) = kd then txR u kd k (p + 1) else p
def txSS (u : Int → Int) : Nat → Int → Int
  | 0, p => p
  | k + 1, p => if u p = 32 then txSS u k (p + 1) else p
def txS (u : Int → Int) (n p : Int) : Int := txSS u (n - p).toNat p
def txE (u : Int → Int) (n p : Int) : Int := if txK (u p) = 0 then p + 1 else txR u (txK (u p)) (n - (p + 1)).toNat (p + 1)
def txN (u : Int → Int) (n p : Int) : Int := txS u n (txE u n p)
def txMS (u : Int → Int) : List Int → Int → Bool
  | [], _ => true
  | c :: l, p => if c = u p then txMS u l (p + 1) else false
def txM (u : Int → Int) (k p e : Int) : Bool := if ((zTx k).length : Int) = e - p then txMS u (zTx k) p else false
def txT (u : Int → Int) (n p : Int) : Int := if n ≤ p then 0 else if txK (u p) = 2 ∧ txE u n p - p ≤ 3 then 2 else zfst (fun i => txM u (zWtx i) p (txE u n p)) 1 33 0
def txD (u : Int → Int) : Nat → Int → Int → Int
  | 0, _, v => v
  | k + 1, p, v => txD u k (p + 1) (10 * v + u p - 48)
def txV (u : Int → Int) (n p : Int) : Int := if txK (u p) = 2 ∧ txE u n p - p ≤ 3 then txD u (txE u n p - p).toNat p 0 else 0
theorem txK_012 {c : Int} : txK c = 0 ∨ txK c = 1 ∨ txK c = 2 := by
  unfold txK
  split
  · exact Or.inr (Or.inl rfl)
  · split
    · exact Or.inr (Or.inr rfl)
    · exact Or.inl rfl
theorem txR_rng {u : Int → Int} {kd : Int} : ∀ (k : Nat) (p : Int), p ≤ txR u kd k p ∧ txR u kd k p ≤ p + k ∧ (∀ i, p ≤ i → i < txR u kd k p → txK (u i) = kd) ∧ (txR u kd k p < p + k → txK (u (txR u kd k p)) ≠ kd) := by
  intro k
  induction k with
  | zero => intro p; exact ⟨Int.le_refl _, by show p ≤ _; omega, fun i h1 h2 => by have h2 : i < p := h2; omega, fun h => by have h : p < p + ((0 : Nat) : Int) := h; omega⟩
  | succ k ih =>
    intro p
    have hh := ih (p + 1)
    show p ≤ (if txK (u p) = kd then txR u kd k (p + 1) else p) ∧ (if txK (u p) = kd then txR u kd k (p + 1) else p) ≤ _ ∧ (∀ i, p ≤ i → i < (if txK (u p) = kd then txR u kd k (p + 1) else p) → txK (u i) = kd) ∧ ((if txK (u p) = kd then txR u kd k (p + 1) else p) < _ → txK (u (if txK (u p) = kd then txR u kd k (p + 1) else p)) ≠ kd)
    by_cases c : txK (u p) = kd
    · rw [if_pos c]
      refine ⟨by omega, by omega, fun i h1 h2 => ?_, fun h => hh.2.2.2 (by omega)⟩
      by_cases ci : i = p
      · rw [ci]; exact c
      · exact hh.2.2.1 i (by omega) h2
    · rw [if_neg c]
      exact ⟨by omega, by omega, fun i h1 h2 => by omega, fun _ => c⟩
theorem txSS_rng {u : Int → Int} : ∀ (k : Nat) (p : Int), p ≤ txSS u k p ∧ txSS u k p ≤ p + k ∧ (txSS u k p < p + k → u (txSS u k p) ≠ 32) := by
  intro k
  induction k with
  | zero => intro p; exact ⟨Int.le_refl _, by show p ≤ _; omega, fun h => by have h : p < p + ((0 : Nat) : Int) := h; omega⟩
  | succ k ih =>
    intro p
    have hh := ih (p + 1)
    show p ≤ (if u p = 32 then txSS u k (p + 1) else p) ∧ (if u p = 32 then txSS u k (p + 1) else p) ≤ _ ∧ ((if u p = 32 then txSS u k (p + 1) else p) < _ → u (if u p = 32 then txSS u k (p + 1) else p) ≠ 32)
    by_cases c : u p = 32
    · rw [if_pos c]
      exact ⟨by omega, by omega, fun h => hh.2.2 (by omega)⟩
    · rw [if_neg c]
      exact ⟨by omega, by omega, fun _ => c⟩
theorem txS_rng {u : Int → Int} {n p : Int} (h : p ≤ n) : p ≤ txS u n p ∧ txS u n p ≤ n ∧ (txS u n p < n → u (txS u n p) ≠ 32) := by
  have hh := txSS_rng (u := u) (n - p).toNat p
  unfold txS
  exact ⟨hh.1, by omega, fun h2 => hh.2.2 (by omega)⟩
theorem txS_id {u : Int → Int} {n p : Int} (h : p < n → u p ≠ 32) : txS u n p = p := by
  unfold txS
  cases hk : (n - p).toNat with
  | zero => rfl
  | succ k => exact if_neg (h (by omega))
theorem txS_sk {u : Int → Int} {n p : Int} (h : p ≤ n) : txS u n (txS u n p) = txS u n p := txS_id (txS_rng h).2.2
theorem txE_rng {u : Int → Int} {n p : Int} (h : p < n) : p + 1 ≤ txE u n p ∧ txE u n p ≤ n := by
  unfold txE
  split
  · omega
  · have hh := txR_rng (u := u) (kd := txK (u p)) (n - (p + 1)).toNat (p + 1)
    omega
theorem txN_rng {u : Int → Int} {n p : Int} (h : p < n) : p + 1 ≤ txN u n p ∧ txN u n p ≤ n ∧ (txN u n p < n → u (txN u n p) ≠ 32) := by
  have h1 := txE_rng (u := u) h
  have h2 := txS_rng (u := u) h1.2
  unfold txN
  exact ⟨by omega, h2.2.1, h2.2.2⟩
theorem txMS_at {u : Int → Int} : ∀ (l : List Int) (p : Int), txMS u l p = true → ∀ i : Nat, i < l.length → l.getD i 0 = u (p + i) := by
  intro l
  induction l with
  | nil => intro p _ i hi; exact absurd hi (by simp)
  | cons c l ih =>
    intro p h i hi
    have h : (if c = u p then txMS u l (p + 1) else false) = true := h
    by_cases hc : c = u p
    · rw [if_pos hc] at h
      cases i with
      | zero => simpa using hc
      | succ i =>
        have := ih (p + 1) h i (by simpa using hi)
        rw [show p + ((i + 1 : Nat) : Int) = p + 1 + (i : Int) by omega]
        simpa using this
    · rw [if_neg hc] at h
      exact absurd h (by decide)
theorem txMS_of {u : Int → Int} : ∀ (l : List Int) (p : Int), (∀ i : Nat, i < l.length → l.getD i 0 = u (p + i)) → txMS u l p = true := by
  intro l
  induction l with
  | nil => intro p _; rfl
  | cons c l ih =>
    intro p h
    have h0 := h 0 (by simp)
    have h0 : c = u p := by simpa using h0
    show (if c = u p then txMS u l (p + 1) else false) = true
    rw [if_pos h0]
    refine ih (p + 1) (fun i hi => ?_)
    have := h (i + 1) (by simpa using hi)
    rw [show p + ((i + 1 : Nat) : Int) = p + 1 + (i : Int) by omega] at this
    simpa using this
theorem txM_uni {u : Int → Int} {k k2 p e : Int} (h : txM u k p e = true) (h2 : txM u k2 p e = true) : zTx k = zTx k2 := by
  unfold txM at h h2
  split at h
  · split at h2
    · have a1 := txMS_at _ _ h
      have a2 := txMS_at _ _ h2
      have hl : (zTx k).length = (zTx k2).length := by omega
      apply List.ext_getElem hl
      intro i i1 i2
      have b1 := a1 i i1
      have b2 := a2 i i2
      rw [List.getD_eq_getElem?_getD, List.getElem?_eq_getElem i1, Option.getD_some] at b1
      rw [List.getD_eq_getElem?_getD, List.getElem?_eq_getElem i2, Option.getD_some] at b2
      rw [b1, b2]
    · exact absurd h2 (by decide)
  · exact absurd h (by decide)
theorem zfst_eq {p : Int → Bool} {no w : Int} : ∀ (n : Nat) (i : Int), i ≤ w → w < i + n → p w = true → (∀ j, i ≤ j → j < w → p j = false) → zfst p no n i = w := by
  intro n
  induction n with
  | zero => intro i h1 h2 _ _; omega
  | succ n ih =>
    intro i h1 h2 hw hj
    by_cases c : i = w
    · subst c
      exact zfst_hit hw
    · rw [zfst_miss (hj i (by omega) (by omega))]
      exact ih (i + 1) (by omega) (by omega) hw (fun j a b => hj j (by omega) b)
theorem zfst_is {p : Int → Bool} {no : Int} : ∀ (n : Nat) (i : Int), zfst p no n i ≠ no → p (zfst p no n i) = true := by
  intro n
  induction n with
  | zero => intro i h; exact absurd rfl h
  | succ n ih =>
    intro i h
    cases hp : p i with
    | true => rw [zfst_hit hp]; exact hp
    | false =>
      rw [zfst_miss hp] at h ⊢
      exact ih (i + 1) h
/-- the first thing, where it is a word -/
theorem txT_of {u : Int → Int} {n p w : Int} (hp : p < n) (hw : 3 ≤ w ∧ w < 33) (h2 : ¬(txK (u p) = 2 ∧ txE u n p - p ≤ 3)) (hm : txM u (zWtx w) p (txE u n p) = true) (hd : ∀ j, 0 ≤ j → j < w → zTx (zWtx j) ≠ zTx (zWtx w)) : txT u n p = w := by
  unfold txT
  rw [if_neg (by omega), if_neg h2]
  refine zfst_eq 33 0 (by omega) (by omega) hm (fun j j0 j1 => ?_)
  cases hj : txM u (zWtx j) p (txE u n p) with
  | true => exact absurd (txM_uni hj hm) (hd j j0 j1)
  | false => rfl
theorem txT_is {u : Int → Int} {n p w : Int} (h : txT u n p = w) (hw : 3 ≤ w) : p < n ∧ ¬(txK (u p) = 2 ∧ txE u n p - p ≤ 3) ∧ txM u (zWtx w) p (txE u n p) = true := by
  unfold txT at h
  split at h
  · omega
  · split at h
    · omega
    · refine ⟨by omega, ‹_›, ?_⟩
      have := zfst_is (p := fun i => txM u (zWtx i) p (txE u n p)) (no := 1) 33 0 (by omega)
      rw [h] at this
      exact this
/-! ### texts of the class file -/
theorem k_coder {q : Int × (Int → Int)} {d : Nat} {σ : zS} {k : Int} (h0 : 0 ≤ k) (h1 : k < 31) : zM (true, q) d 25 [(6, k, 0)] σ = some ((0, 0, 0), σ) := by
  rw [ze_Str_coder, zb_Str_coder_0, if_neg (by decide), zb_Str_coder_2, zG2 h0 h1, zb_Str_coder_4, zG2 (by decide) (by decide)]
theorem zshr0 {x : Int} (h0 : 0 ≤ x) (h1 : x < 65536) : zshr x 0 = x := by
  have : ∀ y : Nat, y < 65536 → (Int32.ofInt (y : Int) >>> (Int32.ofInt 0 &&& 31)).toInt = (y : Int) := by
    intro y hy
    have e : (Int32.ofInt 0 &&& 31) = 0 := by decide
    rw [e]
    have e2 : ∀ z : Int32, z >>> (0 : Int32) = z := fun z => by simp
    rw [e2, Int32.toInt_ofInt_of_le (by omega) (by omega)]
  have h := this x.toNat (by omega)
  rw [show ((x.toNat : Nat) : Int) = x by omega] at h
  exact h
theorem k_length {q : Int × (Int → Int)} {d : Nat} {σ : zS} {k : Int} (h0 : 0 ≤ k) (h1 : k < 31) : zM (true, q) (d + 1) 26 [(6, k, 0)] σ = some ((0, ((zTx k).length : Int), 0), σ) := by
  have hl : ∀ j : Nat, j < 31 → (zTx (j : Int)).length < 65536 := by decide
  have hl := hl k.toNat (by omega)
  rw [show ((k.toNat : Nat) : Int) = k by omega] at hl
  rw [ze_Str_length, zb_Str_length_0, zG2 h0 h1, zb_Str_length_2, k_coder h0 h1, zK_i, zb_Str_length_5, zshr0 (by omega) (by omega)]
theorem zand255 : ∀ c : Nat, c < 128 → zi2c (zand (c : Int) 255) = (c : Int) := by decide
theorem k_charAt {q : Int × (Int → Int)} {d : Nat} {σ : zS} {k i : Int} (h0 : 0 ≤ k) (h1 : k < 31) (i0 : 0 ≤ i) (i1 : i < (zTx k).length) : zM (true, q) (d + 3) 31 [(6, k, 0), (0, i, 0)] σ = some ((0, (zTx k).getD i.toNat 0, 0), σ) := by
  have hc : ∀ j : Nat, j < 31 → ∀ i : Nat, i < (zTx (j : Int)).length → 0 ≤ (zTx (j : Int)).getD i 0 ∧ (zTx (j : Int)).getD i 0 < 128 := by decide
  have hc := hc k.toNat (by omega) i.toNat (by rw [show ((k.toNat : Nat) : Int) = k by omega]; omega)
  rw [show ((k.toNat : Nat) : Int) = k by omega] at hc
  have ha := zand255 ((zTx k).getD i.toNat 0).toNat (by omega)
  rw [show ((((zTx k).getD i.toNat 0).toNat : Nat) : Int) = (zTx k).getD i.toNat 0 by omega] at ha
  have hz : zM (true, q) (d + 2) 27 [(6, k, 0)] σ = some ((0, 1, 0), σ) := by
    rw [ze_Str_isLatin1, zb_Str_isLatin1_0, if_neg (by decide), zb_Str_isLatin1_2, zG2 h0 h1, zb_Str_isLatin1_4, if_neg (by decide), zb_Str_isLatin1_5, zG2 (by decide) (by decide)]
  have hs : zM (true, q) (d + 2) 30 [(35, k, ((zTx k).length : Int)), (0, i, 0)] σ = some ((0, (zTx k).getD i.toNat 0, 0), σ) := by
    rw [ze_Sl1_charAt, zb_Sl1_charAt_0, ze_Str_checkIndex, zb_Str_checkIndex_0, ze_Pre_checkIndex, zb_Pre_checkIndex_0, if_neg (by omega), zb_Pre_checkIndex_2, if_pos i1, zb_Pre_checkIndex_10, zK_i, zb_Str_checkIndex_4, zK_v, zb_Sl1_charAt_4, zG2 i0 i1, zb_Sl1_charAt_7, ha, zG2 (by omega) (by omega)]
  rw [ze_Str_charAt, zb_Str_charAt_0, hz, zK_i, zb_Str_charAt_2, if_neg (by decide), zb_Str_charAt_3, zG2 h0 h1, zb_Str_charAt_5, hs, zK_i, zb_Str_charAt_7, zG2 (by omega) (by omega)]
