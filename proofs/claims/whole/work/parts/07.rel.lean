/-! ## the machine's heap and the abstract one -/
/-- what is fixed for a whole run of the law: the classes and their slots, the classes of rows, where the texts, their bytes, the words, the row of words, the script lie; the script; from where on cells are the run's own -/
abbrev zCx : Type := va_G × (Nat → ClassId) × (Nat → Nat) × (Nat → Nat) × (Nat → Nat) × Nat × Nat × Nat × (Nat → Int32) × Nat
def zCx.D (K : zCx) : va_G := K.1
def zCx.cA (K : zCx) : Nat → ClassId := K.2.1
def zCx.adK (K : zCx) : Nat → Nat := K.2.2.1
def zCx.adV (K : zCx) : Nat → Nat := K.2.2.2.1
def zCx.adW (K : zCx) : Nat → Nat := K.2.2.2.2.1
def zCx.tW (K : zCx) : Nat := K.2.2.2.2.2.1
def zCx.b (K : zCx) : Nat := K.2.2.2.2.2.2.1
def zCx.L (K : zCx) : Nat := K.2.2.2.2.2.2.2.1
def zCx.xs (K : zCx) : Nat → Int32 := K.2.2.2.2.2.2.2.2.1
def zCx.base (K : zCx) : Nat := K.2.2.2.2.2.2.2.2.2
def zCx.A (K : zCx) : Nat → Prop := fun q => K.base ≤ q
def zRel (K : zCx) (ad : Nat → Nat) (n : Nat) (v : zV) (w : Value) : Prop := match v with
  | (0, x, _) => w = .int (Int32.ofInt x) ∧ zI32 x
  | (1, x, _) => w = .long (Int64.ofInt x) ∧ zI64 x
  | (2, _, _) => False
  | (3, _, _) => ∃ r, w = va_rf r
  | (4, _, _) => w = .null
  | (5, x, _) => w = va_rf (if x < 0 then none else some (K.adW x.toNat)) ∧ -1 ≤ x ∧ x < 33
  | (6, x, _) => w = .ref (K.adK x.toNat) ∧ 0 ≤ x ∧ x < 31
  | (7, _, y) => w = .ref K.tW ∧ y = 33
  | (8, _, _) => w = .ref K.b
  | (9, _, _) => False
  | (35, x, y) => w = .ref (K.adV x.toNat) ∧ 0 ≤ x ∧ x < 31 ∧ y = ((zTx x).length : Int)
  | (t, x, y) => w = .ref (ad x.toNat) ∧ 10 ≤ t ∧ t < 35 ∧ 0 ≤ x ∧ x.toNat < n ∧ zST x.toNat = t ∧ y = zYT x.toNat
def zOb (ad : Nat → Nat) (n : Nat) (t : Nat) (x y : Int) (w : Value) : Prop := w = .ref (ad x.toNat) ∧ 10 ≤ t ∧ t < 35 ∧ 0 ≤ x ∧ x.toNat < n ∧ zST x.toNat = t ∧ y = zYT x.toNat
theorem zRel_o {K : zCx} {ad : Nat → Nat} {n t : Nat} {x y : Int} {w : Value} (h10 : 10 ≤ t) (h35 : t < 35) : zRel K ad n (t, x, y) w ↔ zOb ad n t x y w := by
  unfold zRel zOb
  split
  · rename_i h; cases h; omega
  · rename_i h; cases h; omega
  · rename_i h; cases h; omega
  · rename_i h; cases h; omega
  · rename_i h; cases h; omega
  · rename_i h; cases h; omega
  · rename_i h; cases h; omega
  · rename_i h; cases h; omega
  · rename_i h; cases h; omega
  · rename_i h; cases h; omega
  · rename_i h; cases h; omega
  · rename_i h; cases h; exact Iff.rfl
theorem zRel_ge {K : zCx} {ad : Nat → Nat} {n t : Nat} {x y : Int} {w : Value} (h : zRel K ad n (t, x, y) w) (h10 : 10 ≤ t) : t ≤ 35 := by
  by_cases h35 : t < 35
  · omega
  · by_cases h36 : t = 35
    · omega
    · exfalso
      unfold zRel at h
      split at h
      · rename_i h9; cases h9; omega
      · rename_i h9; cases h9; omega
      · rename_i h9; cases h9; omega
      · rename_i h9; cases h9; omega
      · rename_i h9; cases h9; omega
      · rename_i h9; cases h9; omega
      · rename_i h9; cases h9; omega
      · rename_i h9; cases h9; omega
      · rename_i h9; cases h9; omega
      · rename_i h9; cases h9; omega
      · rename_i h9; cases h9; omega
      · rename_i h9; cases h9; omega
/-- what is no number and no long is one word, a reference or null -/
theorem zRel_rf {K : zCx} {ad : Nat → Nat} {n t : Nat} {x y : Int} {w : Value} (h : zRel K ad n (t, x, y) w) (h3 : 3 ≤ t) : ∃ r, w = va_rf r := by
  unfold zRel at h
  split at h
  · rename_i h9; cases h9; omega
  · rename_i h9; cases h9; omega
  · exact h.elim
  · exact h
  · exact ⟨none, h⟩
  · exact ⟨_, h.1⟩
  · exact ⟨some _, h.1⟩
  · exact ⟨some _, h.1⟩
  · exact ⟨some _, h⟩
  · exact h.elim
  · exact ⟨some _, h.1⟩
  · exact ⟨some _, h.1⟩
theorem va_rf_cat (r : Option Nat) : (va_rf r).category = 1 := by cases r <;> rfl
theorem zRel_cat {K : zCx} {ad : Nat → Nat} {n t : Nat} {x y : Int} {w : Value} (h : zRel K ad n (t, x, y) w) : w.category = if t = 1 then 2 else 1 := by
  by_cases h0 : t = 0
  · subst h0; rw [h.1]; rfl
  · by_cases h1 : t = 1
    · subst h1; rw [h.1]; rfl
    · by_cases h2 : t = 2
      · subst h2; exact h.elim
      · obtain ⟨r, rfl⟩ := zRel_rf h (by omega)
        rw [va_rf_cat, if_neg h1]
/-- more objects, at the same places -/
def zag (ad ad' : Nat → Nat) (n : Nat) : Prop := ∀ a, a < n → ad' a = ad a
theorem zag.rf (ad : Nat → Nat) (n : Nat) : zag ad ad n := fun _ _ => rfl
theorem zag.tr {ad ad' ad2 : Nat → Nat} {n k : Nat} (h : zag ad ad' n) (h2 : zag ad' ad2 k) (hk : n ≤ k) : zag ad ad2 n := fun a ha => (h2 a (by omega)).trans (h a ha)
theorem zRel_more {K : zCx} {ad ad' : Nat → Nat} {n k : Nat} {v : zV} {w : Value} (h : zRel K ad n v w) (hag : zag ad ad' n) (hk : n ≤ k) : zRel K ad' k v w := by
  obtain ⟨t, x, y⟩ := v
  by_cases h10 : 10 ≤ t ∧ t < 35
  · rw [zRel_o h10.1 h10.2] at h ⊢
    obtain ⟨h1, h2, h3, h4, h5, h6, h7⟩ := h
    exact ⟨by rw [h1, hag _ h5], h2, h3, h4, by omega, h6, h7⟩
  · by_cases ht : t < 10 ∨ t = 35
    · have : t = 0 ∨ t = 1 ∨ t = 2 ∨ t = 3 ∨ t = 4 ∨ t = 5 ∨ t = 6 ∨ t = 7 ∨ t = 8 ∨ t = 9 ∨ t = 35 := by omega
      rcases this with rfl | rfl | rfl | rfl | rfl | rfl | rfl | rfl | rfl | rfl | rfl <;> exact h
    · exact absurd (zRel_ge h (by omega)) (by omega)
def zRels (K : zCx) (ad : Nat → Nat) (n : Nat) : List zV → List Value → Prop
  | [], [] => True
  | v :: vs, w :: ws => zRel K ad n v w ∧ zRels K ad n vs ws
  | _, _ => False
theorem zRels_cons {K : zCx} {ad : Nat → Nat} {n : Nat} {v : zV} {vs : List zV} {ws : List Value} (h : zRels K ad n (v :: vs) ws) : ∃ w ws', ws = w :: ws' ∧ zRel K ad n v w ∧ zRels K ad n vs ws' := by
  cases ws with
  | nil => exact h.elim
  | cons w ws' => exact ⟨w, ws', rfl, h.1, h.2⟩
theorem zRels_nil {K : zCx} {ad : Nat → Nat} {n : Nat} {ws : List Value} (h : zRels K ad n [] ws) : ws = [] := by
  cases ws with
  | nil => rfl
  | cons w ws' => exact h.elim
theorem zRels_more {K : zCx} {ad ad' : Nat → Nat} {n k : Nat} (hag : zag ad ad' n) (hk : n ≤ k) : ∀ {vs : List zV} {ws : List Value}, zRels K ad n vs ws → zRels K ad' k vs ws := by
  intro vs
  induction vs with
  | nil => intro ws h; rw [zRels_nil h]; trivial
  | cons v vs ih =>
    intro ws h
    obtain ⟨w, ws', rfl, h1, h2⟩ := zRels_cons h
    exact ⟨zRel_more h1 hag hk, ih h2⟩
theorem zRels_len {K : zCx} {ad : Nat → Nat} {n : Nat} : ∀ {vs : List zV} {ws : List Value}, zRels K ad n vs ws → vs.length = ws.length := by
  intro vs
  induction vs with
  | nil => intro ws h; rw [zRels_nil h]; rfl
  | cons v vs ih =>
    intro ws h
    obtain ⟨w, ws', rfl, h1, h2⟩ := zRels_cons h
    rw [List.length_cons, List.length_cons, ih h2]
theorem zRels_app {K : zCx} {ad : Nat → Nat} {n : Nat} : ∀ {vs us : List zV} {ws xs : List Value}, zRels K ad n vs ws → zRels K ad n us xs → zRels K ad n (vs ++ us) (ws ++ xs) := by
  intro vs
  induction vs with
  | nil => intro us ws xs h h2; rw [zRels_nil h]; exact h2
  | cons v vs ih =>
    intro us ws xs h h2
    obtain ⟨w, ws', rfl, h1, h3⟩ := zRels_cons h
    exact ⟨h1, ih h3 h2⟩
/-! the locals -/
def zLoc (K : zCx) (ad : Nat → Nat) (n : Nat) (lm : Array Slot) (nL : Nat) (ls : List zV) : Prop := lm.size = nL ∧ lv_wf lm ∧ ls.length = nL ∧ ∀ (i : Nat) (v : zV), ls[i]? = some v → v.1 ≠ 2 → (v.1 = 1 → ∃ y, ls[i + 1]? = some (2, 1, y)) → ∃ w, lm[i]? = some (.val w) ∧ zRel K ad n v w
theorem zLoc_more {K : zCx} {ad ad' : Nat → Nat} {n k : Nat} {lm : Array Slot} {nL : Nat} {ls : List zV} (hag : zag ad ad' n) (hk : n ≤ k) (h : zLoc K ad n lm nL ls) : zLoc K ad' k lm nL ls := by
  obtain ⟨h1, h2, h3, h4⟩ := h
  refine ⟨h1, h2, h3, fun i v hv h5 h6 => ?_⟩
  obtain ⟨w, e1, e2⟩ := h4 i v hv h5 h6
  exact ⟨w, e1, zRel_more e2 hag hk⟩
theorem zget_at : ∀ (l : List zV) (k : Nat), zget l k = (l[k]?).getD (2, 0, 0) := by
  intro l
  induction l with
  | nil => intro k; rfl
  | cons v l ih =>
    intro k
    cases k with
    | zero => rfl
    | succ k => simp only [zget, List.getElem?_cons_succ]; exact ih k
theorem zget_some {l : List zV} {k : Nat} {v : zV} (h : zget l k = v) (hv : v.1 ≠ 2 ∨ v.2.1 ≠ 0) : l[k]? = some v := by
  rw [zget_at] at h
  cases hl : l[k]? with
  | some u => rw [hl] at h; exact congrArg some h
  | none =>
    rw [hl] at h
    simp only [Option.getD_none] at h
    subst h
    rcases hv with hv | hv <;> exact absurd rfl hv
theorem zset_at : ∀ (l : List zV) (k : Nat) (x : zV) (i : Nat), (zset l k x)[i]? = if i = k ∧ k < l.length then some x else l[i]? := by
  intro l
  induction l with
  | nil => intro k x i; simp [zset]
  | cons v l ih =>
    intro k x i
    cases k with
    | zero =>
      cases i with
      | zero => simp [zset]
      | succ i => simp [zset]
    | succ k =>
      cases i with
      | zero => simp [zset]
      | succ i =>
        simp only [zset, List.getElem?_cons_succ, List.length_cons]
        rw [ih]
        simp
theorem zset_len : ∀ (l : List zV) (k : Nat) (x : zV), (zset l k x).length = l.length := by
  intro l
  induction l with
  | nil => intro k x; rfl
  | cons v l ih =>
    intro k x
    cases k with
    | zero => rfl
    | succ k => simp [zset, ih]
/-- a value of one word stored -/
theorem zLoc_st1 {K : zCx} {ad : Nat → Nat} {n : Nat} {lm : Array Slot} {nL k : Nat} {ls : List zV} {v : zV} {w : Value} (h : zLoc K ad n lm nL ls) (hk : k < nL) (hv : zRel K ad n v w) (hc : w.category = 1) :
    ∃ lv : List (Nat × Value), lv_has lm nL lv ∧ ∀ lm', lv_has lm' nL ((k, w) :: lv.filter (fun q => !(q.1 == k) && !(q.1 + 1 == k && q.2.category == 2))) → zLoc K ad n lm' nL (zset ls k v) := by
  obtain ⟨h1, h2, h3, h4⟩ := h
  refine ⟨(List.range nL).filterMap (fun i => match lm[i]? with
    | some (Slot.val w) => some (i, w)
    | _ => none), ⟨h1, h2, fun q hq => ?_⟩, fun lm' h' => ?_⟩
  · obtain ⟨i, -, hi⟩ := List.mem_filterMap.mp hq
    split at hi
    · rename_i w' hw; cases hi; exact hw
    · cases hi
  · obtain ⟨g1, g2, g3⟩ := h'
    refine ⟨g1, g2, by rw [zset_len]; exact h3, fun i u hu hu2 hu1 => ?_⟩
    rw [zset_at] at hu
    by_cases hik : i = k
    · subst hik
      rw [if_pos ⟨rfl, by omega⟩] at hu
      cases hu
      exact ⟨w, g3 (i, w) List.mem_cons_self, hv⟩
    · rw [if_neg (fun z => hik z.1)] at hu
      have hu1' : u.1 = 1 → i + 1 ≠ k ∧ ∃ y, ls[i + 1]? = some (2, 1, y) := by
        intro e
        obtain ⟨y, hy⟩ := hu1 e
        rw [zset_at] at hy
        by_cases hk1 : i + 1 = k
        · rw [if_pos ⟨hk1, by omega⟩] at hy
          cases hy
          exact hv.elim
        · rw [if_neg (fun z => hk1 z.1)] at hy
          exact ⟨hk1, y, hy⟩
      obtain ⟨w', e1, e2⟩ := h4 i u hu hu2 (fun e => (hu1' e).2)
      refine ⟨w', g3 (i, w') (List.mem_cons_of_mem _ (List.mem_filter.mpr ⟨List.mem_filterMap.mpr ⟨i, List.mem_range.mpr ?_, by rw [e1]⟩, ?_⟩)), e2⟩
      · have := (List.getElem?_eq_some_iff.mp hu).1; omega
      · have hcat := zRel_cat e2
        simp only [Bool.and_eq_true, Bool.not_eq_true', beq_eq_false_iff_ne, ne_eq, Bool.and_eq_false_iff]
        refine ⟨hik, ?_⟩
        by_cases e : u.1 = 1
        · exact Or.inl (hu1' e).1
        · right
          rw [if_neg e] at hcat
          rw [hcat]
          decide
/-- a long stored -/
theorem zLoc_st2 {K : zCx} {ad : Nat → Nat} {n : Nat} {lm : Array Slot} {nL k : Nat} {ls : List zV} {x y : Int} {w : Value} (h : zLoc K ad n lm nL ls) (hk : k + 1 < nL) (hv : zRel K ad n (1, x, y) w) :
    ∃ lv : List (Nat × Value), lv_has lm nL lv ∧ ∀ lm', lv_has lm' nL ((k, w) :: lv.filter (fun q => !(q.1 == k) && (!(q.1 == k + 1) && !(q.1 + 1 == k && q.2.category == 2)))) → zLoc K ad n lm' nL (zset (zset ls k (1, x, y)) (k + 1) (2, 1, 0)) := by
  obtain ⟨h1, h2, h3, h4⟩ := h
  refine ⟨(List.range nL).filterMap (fun i => match lm[i]? with
    | some (Slot.val w) => some (i, w)
    | _ => none), ⟨h1, h2, fun q hq => ?_⟩, fun lm' h' => ?_⟩
  · obtain ⟨i, -, hi⟩ := List.mem_filterMap.mp hq
    split at hi
    · rename_i w' hw; cases hi; exact hw
    · cases hi
  · obtain ⟨g1, g2, g3⟩ := h'
    refine ⟨g1, g2, by rw [zset_len, zset_len]; exact h3, fun i u hu hu2 hu1 => ?_⟩
    rw [zset_at, zset_len] at hu
    by_cases hik1 : i = k + 1
    · rw [if_pos ⟨hik1, by omega⟩] at hu
      cases hu
      exact absurd rfl hu2
    · rw [if_neg (fun z => hik1 z.1), zset_at] at hu
      by_cases hik : i = k
      · subst hik
        rw [if_pos ⟨rfl, by omega⟩] at hu
        cases hu
        exact ⟨w, g3 (i, w) List.mem_cons_self, hv⟩
      · rw [if_neg (fun z => hik z.1)] at hu
        have hu1' : u.1 = 1 → i + 1 ≠ k ∧ ∃ y, ls[i + 1]? = some (2, 1, y) := by
          intro e
          obtain ⟨y, hy⟩ := hu1 e
          rw [zset_at, zset_len, if_neg (fun z => hik (by omega)), zset_at] at hy
          by_cases hk1 : i + 1 = k
          · rw [if_pos ⟨hk1, by omega⟩] at hy
            cases hy
          · rw [if_neg (fun z => hk1 z.1)] at hy
            exact ⟨hk1, y, hy⟩
        obtain ⟨w', e1, e2⟩ := h4 i u hu hu2 (fun e => (hu1' e).2)
        refine ⟨w', g3 (i, w') (List.mem_cons_of_mem _ (List.mem_filter.mpr ⟨List.mem_filterMap.mpr ⟨i, List.mem_range.mpr ?_, by rw [e1]⟩, ?_⟩)), e2⟩
        · have := (List.getElem?_eq_some_iff.mp hu).1; omega
        · have hcat := zRel_cat e2
          simp only [Bool.and_eq_true, Bool.not_eq_true', beq_eq_false_iff_ne, ne_eq, Bool.and_eq_false_iff]
          refine ⟨hik, hik1, ?_⟩
          by_cases e : u.1 = 1
          · exact Or.inl (hu1' e).1
          · right
            rw [if_neg e] at hcat
            rw [hcat]
            decide
