/-! ## the other form: what comes back, draws, proving -/
theorem zfst_rng {p : Int → Bool} {no : Int} : ∀ (n : Nat) (i : Int), zfst p no n i = no ∨ (i ≤ zfst p no n i ∧ zfst p no n i < i + n) := by
  intro n
  induction n with
  | zero => intro i; exact Or.inl rfl
  | succ n ih =>
    intro i
    cases hp : p i with
    | true =>
      rw [zfst_hit hp]
      exact Or.inr ⟨by omega, by omega⟩
    | false =>
      rw [zfst_miss hp]
      rcases ih (i + 1) with h | h
      · exact Or.inl h
      · exact Or.inr ⟨by omega, by omega⟩
theorem rAhead_rng {g : Int → Int} {B n : Int} (h : 0 ≤ g (B + 7)) : 0 ≤ rAhead g B n ∧ rAhead g B n ≤ g (B + 7) := by
  unfold rAhead
  rcases zfst_rng (p := fun k => decide (g (B + (17 + 4 * k + 2)) = n)) (no := if n = g (B + 10) then g (B + 7) else 0) (g (B + 7)).toNat 0 with h1 | h1
  · rw [h1]
    split <;> omega
  · omega
def rRep1 (g : Int → Int) (B : Int) : Int → Int := zup1 (msh g (B + 69) (g (B + 2) - 1) 1) (B + (69 + g (B + 2) - 1)) (g (B + 11))
def rRep2 (g : Int → Int) (B num : Int) : Int → Int := if num = -1 then g else zup1 (rLeaves g B (rAhead g B num)) (B + 8) (if 0 ≤ g (B + 8) - rAhead g B num then g (B + 8) - rAhead g B num else 0)
def rRep3 (g : Int → Int) (B : Int) : Int → Int := rWraps (if g (B + 7) = 0 then zup1 g (B + 9) 0 else g) B
def rHas (g : Int → Int) (B : Int) : Int → Int := rRep3 (rRep2 (rRep1 g B) B (g (B + 69))) B
theorem l_rep1 {q : Int × (Int → Int)} {d : Nat} {f : Int → Int → Int} {t : (Int → Int) × Nat × Nat × Nat × (Int → Int → Bool)} {g : Int → Int} {l x p : Int} (hl : 0 ≤ l) (hl4 : l < 4) (hp : p = g (10 + 265 * l + 2)) (p1 : 1 ≤ p) (p4 : p ≤ 4) : ∀ (k : Nat) (i : Int), 0 ≤ i → i + k = p - 1 → zD (true, q) (d + 2) zc_M_hasReply (zat zc_M_hasReply 12) [(20, 1464, 0), (0, l, 0), (0, x, 0), (0, p, 0), (0, i, 0)] [] (zrow f 1465 (msh g (10 + 265 * l + 69) i 1), t) = zD (true, q) (d + 2) zc_M_hasReply (zat zc_M_hasReply 45) [(20, 1464, 0), (0, l, 0), (0, x, 0), (0, p, 0), (0, p - 1, 0)] [] (zrow f 1465 (rRep1 g (10 + 265 * l)), t) := by
  have e11 : ∀ i, i ≤ 3 → msh g (10 + 265 * l + 69) i 1 (10 + 265 * l + 11) = g (10 + 265 * l + 11) := fun i _ => msh_out (by omega)
  intro k
  induction k with
  | zero =>
    intro i h0 h1
    have : i = p - 1 := by omega
    subst this
    rw [zb_M_hasReply_12]
    try simp (disch := omega) only [zw_id]
    rw [if_pos (by omega)]
    try simp (disch := omega) only [zw_id]
    rw [zb_M_hasReply_33]
    try simp (disch := omega) only [zw_id]
    rw [r_of (by omega) (by omega) (by omega) (by omega) , zK_i, zb_M_hasReply_44, r_lays (by omega) (by omega) (by omega) (by omega) , zK_v]
    rw [e11 _ (by omega)]
    unfold rRep1
    rw [← hp]
  | succ k ih =>
    intro i h0 h1
    rw [zb_M_hasReply_12]
    try simp (disch := omega) only [zw_id]
    rw [if_neg (by omega)]
    try simp (disch := omega) only [zw_id]
    rw [zb_M_hasReply_17]
    try simp (disch := omega) only [zw_id]
    rw [r_of (by omega) (by omega) (by omega) (by omega) , zK_i, zb_M_hasReply_30, r_lays (by omega) (by omega) (by omega) (by omega) , zK_v, zb_M_hasReply_31]
    try simp (disch := omega) only [zw_id]
    rw [msh_s h0 (by omega) (by omega) (by omega)]
    exact ih (i + 1) (by omega) (by omega)
theorem l_rep3 {q : Int × (Int → Int)} {d : Nat} {f : Int → Int → Int} {t : (Int → Int) × Nat × Nat × Nat × (Int → Int → Bool)} {g : Int → Int} {l x p i : Int} (hl : 0 ≤ l) (hl4 : l < 4) : zD (true, q) (d + 2) zc_M_hasReply (zat zc_M_hasReply 69) [(20, 1464, 0), (0, l, 0), (0, x, 0), (0, p, 0), (0, i, 0)] [] (zrow f 1465 g, t) = some ((9, 0, 0), (zrow f 1465 (rRep3 g (10 + 265 * l)), t)) := by
  unfold rRep3
  by_cases h : g (10 + 265 * l + 7) = 0
  · rw [if_pos h]
    rw [zb_M_hasReply_69, r_of (by omega) (by omega) (by omega) (by omega) , zK_i, zb_M_hasReply_73, if_neg (fun z => z h), zb_M_hasReply_74, r_lays (by omega) (by omega) (by omega) (by omega) , zK_v, zb_M_hasReply_79, r_wraps hl hl4, zK_v, zb_M_hasReply_82]
  · rw [if_neg h]
    rw [zb_M_hasReply_69, r_of (by omega) (by omega) (by omega) (by omega) , zK_i, zb_M_hasReply_73, if_pos (h), zb_M_hasReply_79, r_wraps hl hl4, zK_v, zb_M_hasReply_82]
theorem l_rep2 {q : Int × (Int → Int)} {d : Nat} {f : Int → Int → Int} {t : (Int → Int) × Nat × Nat × Nat × (Int → Int → Bool)} {g : Int → Int} {l x p i : Int} (hl : 0 ≤ l) (hl4 : l < 4) (k0 : 0 ≤ g (10 + 265 * l + 7)) (k8 : g (10 + 265 * l + 7) ≤ 8) (h0 : 0 ≤ g (10 + 265 * l + 8)) (h8 : g (10 + 265 * l + 8) ≤ 8) : zD (true, q) (d + 3) zc_M_hasReply (zat zc_M_hasReply 45) [(20, 1464, 0), (0, l, 0), (0, x, 0), (0, p, 0), (0, i, 0)] [] (zrow f 1465 g, t) = some ((9, 0, 0), (zrow f 1465 (rRep3 (rRep2 g (10 + 265 * l) x) (10 + 265 * l)), t)) := by
  have hr := rAhead_rng (g := g) (B := 10 + 265 * l) (n := x) k0
  unfold rRep2
  by_cases h : x = -1
  · rw [if_pos h, zb_M_hasReply_45, if_pos h]
    exact l_rep3 hl hl4
  · rw [if_neg h]
    have e8 : rLeaves g (10 + 265 * l) (rAhead g (10 + 265 * l) x) (10 + 265 * l + 8) = g (10 + 265 * l + 8) := (zup1_ne (by omega)).trans (msh_out (by omega))
    rw [zb_M_hasReply_45, if_neg h, zb_M_hasReply_48, r_aheadOf hl hl4 k0 k8, zK_i, zb_M_hasReply_52, r_leaves hl hl4 hr.1 hr.2 k8, zK_v, zb_M_hasReply_57, r_of (by omega) (by omega) (by omega) (by omega), zK_i, zb_M_hasReply_65, e8, zw_id (by omega) (by omega), r_greater, zK_i, zb_M_hasReply_68, r_lays (by omega) (by omega) (by omega) (by omega), zK_v]
    exact l_rep3 hl hl4
theorem r_hasReply {q : Int × (Int → Int)} {d : Nat} {f : Int → Int → Int} {t : (Int → Int) × Nat × Nat × Nat × (Int → Int → Bool)} {g : Int → Int} {l : Int} (hl : 0 ≤ l) (hl4 : l < 4) (p1 : 1 ≤ g (10 + 265 * l + 2)) (p4 : g (10 + 265 * l + 2) ≤ 4) (k0 : 0 ≤ g (10 + 265 * l + 7)) (k8 : g (10 + 265 * l + 7) ≤ 8) (h0 : 0 ≤ g (10 + 265 * l + 8)) (h8 : g (10 + 265 * l + 8) ≤ 8) : zM (true, q) (d + 3) 157 [(20, 1464, 0), (0, l, 0)] (zrow f 1465 g, t) = some ((9, 0, 0), (zrow f 1465 (rHas g (10 + 265 * l)), t)) := by
  have e7 : rRep1 g (10 + 265 * l) (10 + 265 * l + 7) = g (10 + 265 * l + 7) := (zup1_ne (by omega)).trans (msh_out (by omega))
  have e8 : rRep1 g (10 + 265 * l) (10 + 265 * l + 8) = g (10 + 265 * l + 8) := (zup1_ne (by omega)).trans (msh_out (by omega))
  rw [ze_M_hasReply, zb_M_hasReply_0, r_of (by omega) (by omega) (by omega) (by omega) , zK_i, zb_M_hasReply_4, r_of (by omega) (by omega) (by omega) (by omega) , zK_i, zb_M_hasReply_9]
  have h := l_rep1 (q := q) (d := d + 1) (f := f) (t := t) (g := g) (l := l) (x := g (10 + 265 * l + 69)) (p := g (10 + 265 * l + 2)) hl hl4 rfl p1 p4 (g (10 + 265 * l + 2) - 1).toNat 0 (by omega) (by omega)
  rw [msh_0 (Int.le_refl 0)] at h
  rw [h]
  exact l_rep2 hl hl4 (by omega) (by omega) (by omega) (by omega)
