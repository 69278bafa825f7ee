/-! ## the other form: a new unit is sent; what is told comes back -/
def rNewT (g : Int → Int) (B : Int) : Int → Int := zup1 (msh g (B + 73) (2 * g (B + 6)) 2) (B + 10) (zrem (g (B + 10) + 1) 16)
theorem l_sendsNew {q : Int × (Int → Int)} {d : Nat} {f : Int → Int → Int} {t : (Int → Int) × Nat × Nat × Nat × (Int → Int → Bool)} {g : Int → Int} {l x : Int} (hl : 0 ≤ l) (hl4 : l < 4) (n0 : 0 ≤ g (10 + 265 * l + 6)) (n1 : g (10 + 265 * l + 6) ≤ 95) (k1 : 1 ≤ g (10 + 265 * l + 7)) (k8 : g (10 + 265 * l + 7) ≤ 8) (x0 : 0 ≤ g (10 + 265 * l + 10)) (x1 : g (10 + 265 * l + 10) ≤ 15) : ∀ (k : Nat) (i : Int), 0 ≤ i → i + k = 2 * g (10 + 265 * l + 6) →
    zD (true, q) (d + 3) zc_M_sendsNew (zat zc_M_sendsNew 60) [(20, 1464, 0), (0, l, 0), (0, x, 0), (0, i, 0)] [] (zrow f 1465 (msh g (10 + 265 * l + 73) i 2), t) = some ((9, 0, 0), (zrow (rSent f (rNewT g (10 + 265 * l)) (10 + 265 * l) (g (10 + 265 * l + 7) - 1)) 1465 (rNewT g (10 + 265 * l)), t)) := by
  have e6 : ∀ i, i ≤ 192 → msh g (10 + 265 * l + 73) i 2 (10 + 265 * l + 6) = g (10 + 265 * l + 6) := fun i _ => msh_out (by omega)
  have e10 : ∀ i, i ≤ 192 → msh g (10 + 265 * l + 73) i 2 (10 + 265 * l + 10) = g (10 + 265 * l + 10) := fun i _ => msh_out (by omega)
  have e7 : ∀ i, i ≤ 192 → msh g (10 + 265 * l + 73) i 2 (10 + 265 * l + 7) = g (10 + 265 * l + 7) := fun i _ => msh_out (by omega)
  have e77 : rNewT g (10 + 265 * l) (10 + 265 * l + 7) = g (10 + 265 * l + 7) := by
    unfold rNewT
    rw [zup1_ne (by omega)]
    exact e7 _ (by omega)
  intro k
  induction k with
  | zero =>
    intro i h0 h1
    have hi : i = 2 * g (10 + 265 * l + 6) := by omega
    subst hi
    rw [zb_M_sendsNew_60, r_of (by omega) (by omega) (by omega) (by omega), zK_i, zb_M_sendsNew_66, e6 _ (by omega), zw_id (by omega) (by omega), if_pos (by omega), zb_M_sendsNew_84, r_of (by omega) (by omega) (by omega) (by omega), zK_i, zb_M_sendsNew_91, e10 _ (by omega), zw_id (by omega) (by omega), zG1 (by omega), zb_M_sendsNew_95, r_lays (by omega) (by omega) (by omega) (by omega), zK_v, zb_M_sendsNew_96]
    show zK _ _ _ _ _ _ (zM (true, q) _ 78 _ (zrow f 1465 (rNewT g (10 + 265 * l)), t)) = _
    rw [r_of (by omega) (by omega) (by omega) (by omega), zK_i, zb_M_sendsNew_102, e77, zw_id (by omega) (by omega), r_isSent hl hl4 (by omega) (by omega), zK_v, zb_M_sendsNew_105]
  | succ k ih =>
    intro i h0 h1
    rw [zb_M_sendsNew_60, r_of (by omega) (by omega) (by omega) (by omega), zK_i, zb_M_sendsNew_66, e6 _ (by omega), zw_id (by omega) (by omega), if_neg (by omega)]
    rw [zb_M_sendsNew_68]
    try simp (disch := omega) only [zw_id]
    rw [r_of (by omega) (by omega) (by omega) (by omega) , zK_i, zb_M_sendsNew_81, r_lays (by omega) (by omega) (by omega) (by omega) , zK_v, zb_M_sendsNew_82]
    try simp (disch := omega) only [zw_id]
    rw [msh_s h0 (by omega) (by omega) (by omega)]
    exact ih (i + 1) (by omega) (by omega)
def rNewA (g : Int → Int) (B : Int) : Int → Int := zup1 (zup1 (zup1 (zup1 (zup1 (zup1 g (B + (17 + 4 * g (B + 7) + 0)) (g (B + (73 + 2 * 0 + 0)))) (B + (17 + 4 * g (B + 7) + 1)) (g (B + (73 + 2 * 0 + 1)))) (B + (17 + 4 * g (B + 7) + 2)) (g (B + 10))) (B + (17 + 4 * g (B + 7) + 3)) 1) (B + 7) (g (B + 7) + 1)) (B + 6) (g (B + 6) - 1)
def rNew (g : Int → Int) (B : Int) : Int → Int := rNewT (rNewA g B) B
theorem r_sendsNew {q : Int × (Int → Int)} {d : Nat} {f : Int → Int → Int} {t : (Int → Int) × Nat × Nat × Nat × (Int → Int → Bool)} {g : Int → Int} {l : Int} (hl : 0 ≤ l) (hl4 : l < 4) (n0 : 0 < g (10 + 265 * l + 6)) (n1 : g (10 + 265 * l + 6) ≤ 96) (k0 : 0 ≤ g (10 + 265 * l + 7)) (k8 : g (10 + 265 * l + 7) < 8) (x0 : 0 ≤ g (10 + 265 * l + 10)) (x1 : g (10 + 265 * l + 10) ≤ 15) : zM (true, q) (d + 3) 159 [(20, 1464, 0), (0, l, 0)] (zrow f 1465 g, t) = some ((9, 0, 0), (zrow (rSent f (rNew g (10 + 265 * l)) (10 + 265 * l) (g (10 + 265 * l + 7))) 1465 (rNew g (10 + 265 * l)), t)) := by
  have a6 : rNewA g (10 + 265 * l) (10 + 265 * l + 6) = g (10 + 265 * l + 6) - 1 := zup1_eq rfl
  have a7 : rNewA g (10 + 265 * l) (10 + 265 * l + 7) = g (10 + 265 * l + 7) + 1 := (zup1_ne (by omega)).trans (zup1_eq rfl)
  have a10 : rNewA g (10 + 265 * l) (10 + 265 * l + 10) = g (10 + 265 * l + 10) := by
    unfold rNewA
    rw [zup1_ne (by omega), zup1_ne (by omega), zup1_ne (by omega), zup1_ne (by omega), zup1_ne (by omega), zup1_ne (by omega)]
  rw [ze_M_sendsNew, zb_M_sendsNew_0, r_of (by omega) (by omega) (by omega) (by omega) , zK_i, zb_M_sendsNew_6]
  try simp (disch := omega) only [zw_id]
  rw [r_queued (by omega) (by omega) (by omega) (by omega) (by omega) (by omega) , zK_i, zb_M_sendsNew_19, r_lays (by omega) (by omega) (by omega) (by omega) , zK_v, zb_M_sendsNew_20]
  try simp (disch := omega) only [zw_id]
  rw [r_queued (by omega) (by omega) (by omega) (by omega) (by omega) (by omega) , zK_i, zb_M_sendsNew_30, r_lays (by omega) (by omega) (by omega) (by omega) , zK_v, zb_M_sendsNew_31]
  try simp (disch := omega) only [zw_id]
  rw [r_of (by omega) (by omega) (by omega) (by omega) , zK_i, zb_M_sendsNew_40, r_lays (by omega) (by omega) (by omega) (by omega) , zK_v, zb_M_sendsNew_41]
  try simp (disch := omega) only [zw_id]
  rw [r_lays (by omega) (by omega) (by omega) (by omega) , zK_v, zb_M_sendsNew_48, r_adds (by omega) (by omega) (by omega) (by omega) , zK_v, zb_M_sendsNew_53, r_adds (by omega) (by omega) (by omega) (by omega) , zK_v]
  simp (disch := omega) only [zup1_ne, zw_id]
  rw [zb_M_sendsNew_58]
  have h := l_sendsNew (q := q) (d := d) (f := f) (t := t) (g := rNewA g (10 + 265 * l)) (l := l) (x := 17 + 4 * g (10 + 265 * l + 7)) hl hl4 (by omega) (by omega) (by omega) (by omega) (by omega) (by omega) (2 * (g (10 + 265 * l + 6) - 1)).toNat 0 (by omega) (by omega)
  rw [msh_0 (Int.le_refl 0), a7, Int.add_sub_cancel] at h
  exact h
