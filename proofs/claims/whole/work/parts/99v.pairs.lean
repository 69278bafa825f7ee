/-! ## lines two by two: the best value, and the first of the best ways -/
def pw (i : Int) : Int := if i = 0 then 1 else if i = 1 then 2 else if i = 2 then 4 else if i = 3 then 8 else 16
def VJ (W V : Int → Int) (s : Int) : Nat → Int → Int → Int
  | 0, _, x => x
  | c + 1, j, x => VJ W V s c (j + 1) (if orT s j = 1 then (if x ≤ W j + V (s - pw j) then W j + V (s - pw j) else x) else x)
def VV (W : Int → Int → Int) : Nat → Int → Int → Int
  | 0, _, _ => 0
  | k + 1, i, s => if orT s i = 1 then VJ (W i) (VV W k (i + 1)) (s - pw i) k (i + 1) (VV W k (i + 1) (s - pw i)) else VV W k (i + 1) s
def OJ (W : Int → Int) (O : Int → (Int → Int) → Int × (Int → Int)) (s i : Int) (P : Int → Int) : Nat → Int → Int × (Int → Int) → Int × (Int → Int)
  | 0, _, x => x
  | c + 1, j, x => OJ W O s i P c (j + 1) (if orT s j = 1 then (if x.1 < W j + (O (s - pw j) (zup1 (zup1 P i j) j i)).1 then (W j + (O (s - pw j) (zup1 (zup1 P i j) j i)).1, (O (s - pw j) (zup1 (zup1 P i j) j i)).2) else x) else x)
def VO (W : Int → Int → Int) : Nat → Int → Int → (Int → Int) → Int × (Int → Int)
  | 0, _, _, P => (0, P)
  | k + 1, i, s, P => if orT s i = 1 then OJ (W i) (VO W k (i + 1)) (s - pw i) i P k (i + 1) (VO W k (i + 1) (s - pw i) P) else VO W k (i + 1) s P
theorem OJ_1 {W V : Int → Int} {O : Int → (Int → Int) → Int × (Int → Int)} {s i : Int} {P : Int → Int} (h : ∀ s P, (O s P).1 = V s) : ∀ (c : Nat) (j : Int) (x : Int × (Int → Int)), (OJ W O s i P c j x).1 = VJ W V s c j x.1 := by
  intro c
  induction c with
  | zero => intro j x; rfl
  | succ c ih =>
    intro j x
    show (OJ W O s i P c (j + 1) _).1 = VJ W V s c (j + 1) _
    rw [ih, h]
    by_cases c1 : orT s j = 1
    · rw [if_pos c1, if_pos c1]
      by_cases c2 : x.1 < W j + V (s - pw j)
      · rw [if_pos c2, if_pos (by omega)]
      · rw [if_neg c2]
        by_cases c3 : x.1 ≤ W j + V (s - pw j)
        · rw [if_pos c3, show W j + V (s - pw j) = x.1 by omega]
        · rw [if_neg c3]
    · rw [if_neg c1, if_neg c1]
theorem VO_1 {W : Int → Int → Int} : ∀ (k : Nat) (i s : Int) (P : Int → Int), (VO W k i s P).1 = VV W k i s := by
  intro k
  induction k with
  | zero => intro i s P; rfl
  | succ k ih =>
    intro i s P
    show (if orT s i = 1 then OJ (W i) (VO W k (i + 1)) (s - pw i) i P k (i + 1) (VO W k (i + 1) (s - pw i) P) else VO W k (i + 1) s P).1 = if orT s i = 1 then VJ (W i) (VV W k (i + 1)) (s - pw i) k (i + 1) (VV W k (i + 1) (s - pw i)) else VV W k (i + 1) s
    by_cases c : orT s i = 1
    · rw [if_pos c, if_pos c, OJ_1 (fun s P => ih (i + 1) s P), ih]
    · rw [if_neg c, if_neg c, ih]
theorem VJ_ge {W V : Int → Int} {s : Int} : ∀ (c : Nat) (j x : Int), x ≤ VJ W V s c j x := by
  intro c
  induction c with
  | zero => intro j x; exact Int.le_refl x
  | succ c ih =>
    intro j x
    refine Int.le_trans ?_ (ih (j + 1) _)
    split
    · split <;> omega
    · exact Int.le_refl x
theorem VJ_congr {W V V2 : Int → Int} {s : Int} : ∀ (c : Nat) (j x : Int), (∀ l, j ≤ l → l < j + c → orT s l = 1 → V (s - pw l) = V2 (s - pw l)) → VJ W V s c j x = VJ W V2 s c j x := by
  intro c
  induction c with
  | zero => intro j x _; rfl
  | succ c ih =>
    intro j x h
    show VJ W V s c (j + 1) _ = VJ W V2 s c (j + 1) _
    rw [ih (j + 1) _ (fun l l0 l1 => h l (by omega) (by omega))]
    by_cases c1 : orT s j = 1
    · rw [if_pos c1, if_pos c1, h j (by omega) (by omega) c1]
    · rw [if_neg c1, if_neg c1]
def fjP (W V : Int → Int) (s M : Int) : Nat → Int → Int
  | 0, j => j
  | c + 1, j => if orT s j = 1 ∧ W j + V (s - pw j) = M then j else fjP W V s M c (j + 1)
theorem fjP_snoc {W V : Int → Int} {s M : Int} : ∀ (c : Nat) (j : Int), fjP W V s M (c + 1) j = if fjP W V s M c j < j + c then fjP W V s M c j else if orT s (j + c) = 1 ∧ W (j + c) + V (s - pw (j + c)) = M then j + c else j + c + 1 := by
  intro c
  induction c with
  | zero =>
    intro j
    show (if orT s j = 1 ∧ W j + V (s - pw j) = M then j else j + 1) = if j < j + 0 then j else if orT s (j + 0) = 1 ∧ W (j + 0) + V (s - pw (j + 0)) = M then j + 0 else j + 0 + 1
    rw [Int.add_zero, if_neg (show ¬ j < j by omega)]
  | succ c ih =>
    intro j
    show (if orT s j = 1 ∧ W j + V (s - pw j) = M then j else fjP W V s M (c + 1) (j + 1)) = if (if orT s j = 1 ∧ W j + V (s - pw j) = M then j else fjP W V s M c (j + 1)) < j + (c + 1 : Nat) then (if orT s j = 1 ∧ W j + V (s - pw j) = M then j else fjP W V s M c (j + 1)) else _
    by_cases h : orT s j = 1 ∧ W j + V (s - pw j) = M
    · rw [if_pos h, if_pos h, if_pos (by omega)]
    · rw [if_neg h, if_neg h, ih, show j + 1 + (c : Int) = j + (c + 1 : Nat) by omega]
theorem fjP_rng {W V : Int → Int} {s M : Int} : ∀ (c : Nat) (j : Int), j ≤ fjP W V s M c j ∧ fjP W V s M c j ≤ j + c ∧ (fjP W V s M c j < j + c → orT s (fjP W V s M c j) = 1 ∧ W (fjP W V s M c j) + V (s - pw (fjP W V s M c j)) = M) := by
  intro c
  induction c with
  | zero => intro j; exact ⟨Int.le_refl j, by show j ≤ j + 0; omega, fun h => absurd h (by show ¬ j < j + 0; omega)⟩
  | succ c ih =>
    intro j
    by_cases h : orT s j = 1 ∧ W j + V (s - pw j) = M
    · have e : fjP W V s M (c + 1) j = j := if_pos h
      rw [e]
      exact ⟨Int.le_refl j, by omega, fun _ => h⟩
    · have e : fjP W V s M (c + 1) j = fjP W V s M c (j + 1) := if_neg h
      rw [e]
      have := ih (j + 1)
      exact ⟨by omega, by omega, fun z => this.2.2 (by omega)⟩
theorem OJ_pick {W V : Int → Int} {O : Int → (Int → Int) → Int × (Int → Int)} {s i : Int} {P : Int → Int} (h : ∀ s P, (O s P).1 = V s) : ∀ (c : Nat) (j : Int) (x : Int × (Int → Int)), ((OJ W O s i P c j x).2 = if x.1 = VJ W V s c j x.1 then x.2 else (O (s - pw (fjP W V s (VJ W V s c j x.1) c j)) (zup1 (zup1 P i (fjP W V s (VJ W V s c j x.1) c j)) (fjP W V s (VJ W V s c j x.1) c j) i)).2) ∧ (x.1 ≠ VJ W V s c j x.1 → fjP W V s (VJ W V s c j x.1) c j < j + c) := by
  intro c
  induction c with
  | zero =>
    intro j x
    exact ⟨(if_pos rfl).symm, fun z => absurd rfl z⟩
  | succ c ih =>
    intro j x
    have un : VJ W V s (c + 1) j x.1 = VJ W V s c (j + 1) (if orT s j = 1 then (if x.1 ≤ W j + V (s - pw j) then W j + V (s - pw j) else x.1) else x.1) := rfl
    have uo : OJ W O s i P (c + 1) j x = OJ W O s i P c (j + 1) (if orT s j = 1 then (if x.1 < W j + (O (s - pw j) (zup1 (zup1 P i j) j i)).1 then (W j + (O (s - pw j) (zup1 (zup1 P i j) j i)).1, (O (s - pw j) (zup1 (zup1 P i j) j i)).2) else x) else x) := rfl
    have uf : ∀ M, fjP W V s M (c + 1) j = if orT s j = 1 ∧ W j + V (s - pw j) = M then j else fjP W V s M c (j + 1) := fun M => rfl
    by_cases c1 : orT s j = 1 ∧ x.1 < W j + V (s - pw j)
    · rw [if_pos c1.1, if_pos (by omega)] at un
      rw [if_pos c1.1, h, if_pos c1.2] at uo
      have hh := ih (j + 1) (W j + V (s - pw j), (O (s - pw j) (zup1 (zup1 P i j) j i)).2)
      have ge := VJ_ge (W := W) (V := V) (s := s) c (j + 1) (W j + V (s - pw j))
      rw [uo, un, uf]
      have hh1 := hh.1
      have hh2 := hh.2
      generalize VJ W V s c (j + 1) (W j + V (s - pw j)) = M at *
      by_cases c2 : W j + V (s - pw j) = M
      · rw [if_neg (by omega), if_pos ⟨c1.1, c2⟩]
        rw [if_pos c2] at hh1
        exact ⟨hh1, fun _ => by omega⟩
      · rw [if_neg (by omega), if_neg (fun z => c2 z.2)]
        rw [if_neg c2] at hh1
        exact ⟨hh1, fun _ => by have := hh2 c2; omega⟩
    · have ux : (if orT s j = 1 then (if x.1 ≤ W j + V (s - pw j) then W j + V (s - pw j) else x.1) else x.1) = x.1 := by
        by_cases c2 : orT s j = 1
        · rw [if_pos c2]
          by_cases c3 : x.1 ≤ W j + V (s - pw j)
          · rw [if_pos c3]
            have : ¬ x.1 < W j + V (s - pw j) := fun z => c1 ⟨c2, z⟩
            omega
          · rw [if_neg c3]
        · rw [if_neg c2]
      have uy : (if orT s j = 1 then (if x.1 < W j + (O (s - pw j) (zup1 (zup1 P i j) j i)).1 then (W j + (O (s - pw j) (zup1 (zup1 P i j) j i)).1, (O (s - pw j) (zup1 (zup1 P i j) j i)).2) else x) else x) = x := by
        by_cases c2 : orT s j = 1
        · rw [if_pos c2, h, if_neg (fun z => c1 ⟨c2, z⟩)]
        · rw [if_neg c2]
      rw [ux] at un
      rw [uy] at uo
      have hh := ih (j + 1) x
      have ge := VJ_ge (W := W) (V := V) (s := s) c (j + 1) x.1
      rw [uo, un, uf]
      have hh1 := hh.1
      have hh2 := hh.2
      generalize VJ W V s c (j + 1) x.1 = M at *
      by_cases c3 : x.1 = M
      · rw [if_pos c3]
        rw [if_pos c3] at hh1
        exact ⟨hh1, fun z => absurd c3 z⟩
      · rw [if_neg c3, if_neg (fun z => c1 ⟨z.1, by omega⟩)]
        rw [if_neg c3] at hh1
        exact ⟨hh1, fun _ => by have := hh2 c3; omega⟩
/-! ### sets of lines -/
theorem pw_dec : ∀ s : Nat, s < 16 → ∀ i : Nat, i < 4 → orT s i = 1 → 0 ≤ (s : Int) - pw i ∧ (s : Int) - pw i < s ∧ zand s (zxor (zshl 1 i) (-1)) = (s : Int) - pw i ∧ ∀ j : Nat, j < 5 → orT ((s : Int) - pw i) j = if j = i then 0 else orT s j := by
  decide +kernel
theorem pw_of {s i : Int} (s0 : 0 ≤ s) (s1 : s < 16) (i0 : 0 ≤ i) (i1 : i < 4) (h : orT s i = 1) : 0 ≤ s - pw i ∧ s - pw i < s ∧ zand s (zxor (zshl 1 i) (-1)) = s - pw i ∧ ∀ j, 0 ≤ j → j < 5 → orT (s - pw i) j = if j = i then 0 else orT s j := by
  have hs := Int.toNat_of_nonneg s0
  have hi := Int.toNat_of_nonneg i0
  have d := pw_dec s.toNat (by omega) i.toNat (by omega) (by rw [hs, hi]; exact h)
  rw [hs, hi] at d
  refine ⟨d.1, d.2.1, d.2.2.1, fun j j0 j1 => ?_⟩
  have hj := Int.toNat_of_nonneg j0
  have e := d.2.2.2 j.toNat (by omega)
  rw [hj] at e
  rw [e]
  by_cases c : j = i
  · rw [if_pos c, if_pos (by omega)]
  · rw [if_neg c, if_neg (by omega)]
theorem orT_01 {s i : Int} : orT s i = 0 ∨ orT s i = 1 := by
  unfold orT
  generalize s / (if i = 0 then 1 else if i = 1 then 2 else if i = 2 then 4 else if i = 3 then 8 else 16) = v
  omega
theorem orT_zero {s : Int} (s0 : 0 ≤ s) (s1 : s < 16) (h : ∀ j, 0 ≤ j → j < 4 → orT s j = 0) : s = 0 := by
  have h0 := h 0 (by decide) (by decide)
  have h1 := h 1 (by decide) (by decide)
  have h2 := h 2 (by decide) (by decide)
  have h3 := h 3 (by decide) (by decide)
  have h0 : s / 1 % 2 = 0 := h0
  have h1 : s / 2 % 2 = 0 := h1
  have h2 : s / 4 % 2 = 0 := h2
  have h3 : s / 8 % 2 = 0 := h3
  omega
theorem VV_skip {W : Int → Int → Int} : ∀ (c k : Nat) (i s : Int), (∀ j, i ≤ j → j < i + c → orT s j = 0) → VV W (k + c) i s = VV W k (i + c) s := by
  intro c
  induction c with
  | zero => intro k i s _; show VV W k i s = VV W k (i + 0) s; rw [Int.add_zero]
  | succ c ih =>
    intro k i s h
    have h0 := h i (by omega) (by omega)
    show (if orT s i = 1 then _ else VV W (k + c) (i + 1) s) = _
    rw [if_neg (by omega), ih k (i + 1) s (fun j j0 j1 => h j (by omega) (by omega)), show i + 1 + (c : Int) = i + (c + 1 : Nat) by omega]
/-- the best of a set, by its lowest line -/
theorem VV_low {W : Int → Int → Int} {m : Nat} {l s : Int} (m4 : m ≤ 4) (s0 : 0 ≤ s) (s1 : s < 16) (l0 : 0 ≤ l) (l1 : l < m) (h : orT s l = 1) (hz : ∀ j, 0 ≤ j → j < l → orT s j = 0) : VV W m 0 s = VJ (W l) (VV W m 0) (s - pw l) (m - 1 - l.toNat) (l + 1) (VV W m 0 (s - pw l)) := by
  obtain ⟨p0, p1, p2, p3⟩ := pw_of s0 s1 l0 (by omega) h
  have e1 : VV W m 0 s = VV W (m - 1 - l.toNat + 1) l s := by
    have := VV_skip (W := W) l.toNat (m - 1 - l.toNat + 1) 0 s (fun j j0 j1 => hz j j0 (by omega))
    rw [show m - 1 - l.toNat + 1 + l.toNat = m by omega, show (0 : Int) + (l.toNat : Int) = l by omega] at this
    exact this
  have e2 : ∀ r, (∀ j, 0 ≤ j → j ≤ l → orT r j = 0) → VV W m 0 r = VV W (m - 1 - l.toNat) (l + 1) r := fun r hr => by
    have := VV_skip (W := W) (l.toNat + 1) (m - 1 - l.toNat) 0 r (fun j j0 j1 => hr j j0 (by omega))
    rw [show m - 1 - l.toNat + (l.toNat + 1) = m by omega, show (0 : Int) + ((l.toNat + 1 : Nat) : Int) = l + 1 by omega] at this
    exact this
  have hp : ∀ j, 0 ≤ j → j ≤ l → orT (s - pw l) j = 0 := fun j j0 j1 => by
    rw [p3 j j0 (by omega)]
    by_cases c : j = l
    · rw [if_pos c]
    · rw [if_neg c]; exact hz j j0 (by omega)
  have un : VV W (m - 1 - l.toNat + 1) l s = if orT s l = 1 then VJ (W l) (VV W (m - 1 - l.toNat) (l + 1)) (s - pw l) (m - 1 - l.toNat) (l + 1) (VV W (m - 1 - l.toNat) (l + 1) (s - pw l)) else VV W (m - 1 - l.toNat) (l + 1) s := rfl
  rw [e1, un, if_pos h, e2 _ hp]
  refine VJ_congr _ _ _ (fun o o0 o1 ho => ?_)
  have q := pw_of (by omega) (by omega) (by omega) (by omega) ho
  exact (e2 _ (fun j j0 j1 => by
    rw [q.2.2.2 j j0 (by omega), if_neg (by omega)]
    exact hp j j0 j1)).symm

