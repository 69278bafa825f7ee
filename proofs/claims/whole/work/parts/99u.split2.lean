/-! ## split, whole -/
theorem o_split {q : Int × (Int → Int)} {N : Int} {f : Int → Int → Int} {t : (Int → Int) × Nat × Nat × Nat × (Int → Int → Bool)} {x : Int} (hR : ZR N f f) : zOu q N f t 223 [(19, 0, 0), (0, x, 0)] 226 [(20, 1464, 0), (0, x, 0)] := by
  have h4 := ZR_4 hR
  have hV : ∀ i, 0 ≤ i → i < f 1465 3 → rLR (f 1465) (10 + 265 * i) ∧ rLL (f 1465) (10 + 265 * i) := fun i i0 i1 => ⟨(ZR_line hR i0 i1).2.1, (ZR_line hR i0 i1).2.2.1⟩
  obtain ⟨f2, r2, fr2, s2, ch2, no2⟩ := c_split (q := q) (t := t) (m := (f 1465 3).toNat) hR rfl rfl rfl rfl
  have hx : gaP (gaO (f 1465) (f 1465 3).toNat 0 (0, f 318, 0)) := gaP_O hV _ 0 _ (Int.le_refl 0) (by omega) ⟨Int.le_refl 0, (show (0 : Int) ≤ 8 by decide), fun j j0 j1 => absurd j1 (by show ¬ j < 0; omega), rfl⟩
  obtain ⟨h1, q1, fr1, a1⟩ := r_first (q := q) (d := 1896) (t := t) (h := zup f2 1464 0 0) (g := f 1465) (B0 := f 318) h4.2.1 h4.2.2 hV
  have due0 : zcnt (fun l => f 1465 (10 + 265 * l + 0)) (f 1465 3).toNat 0 ≠ 0 → _ := due_rng (g := f 1465) (S := fun l => f 1465 (10 + 265 * l + 0)) (m := (f 1465 3).toNat) hx (by omega)
  generalize gaO (f 1465) (f 1465 3).toNat 0 (0, f 318, 0) = z at *
  obtain ⟨z0, z8, zA, zs⟩ := hx
  have hcn := gIn_cnt (g := f 1465) (m := (f 1465 3).toNat) (by omega)
  generalize hn : z.1 = n at *
  generalize hA : z.2.1 = A at *
  have f15 : f2 1465 = f 1465 := funext fun k => fr2 _ _ (by omega)
  have e2 : zrow f2 1465 (f 1465) = f2 := by rw [← f15, zrow_id]
  have ck : zCk f f2 := fun o k a => fr2 o k (by omega)
  have ch : ∀ o k, 1464 ≤ o → o ≠ 1478 → f2 o k = f o k := fun o k a _ => fr2 o k (by omega)
  -- it is enough to say what both answer
  have fin : ∀ (v : Int) (h2 : Int → Int → Int), zM (true, q) 1899 223 [(19, 0, 0), (0, x, 0)] (f, t) = some ((0, v, 0), (f2, t)) → zM (true, q) 1899 226 [(20, 1464, 0), (0, x, 0)] (zrow f2 1465 (f 1465), t) = some ((0, v, 0), (zrow h2 1465 (f 1465), t)) → (∀ o k, o ≠ 1474 → o ≠ 1475 → o ≠ 1477 → h2 o k = zup f2 1464 0 0 o k) → zOu q N f t 223 [(19, 0, 0), (0, x, 0)] 226 [(20, 1464, 0), (0, x, 0)] := by
    intro v h2 hk hm hf
    rw [e2] at hm
    refine zOu_pure hR hk ck ch zTt_refl hm (fun o k a => ?_) ⟨fun o k a => ?_, zB3_fr (fun k k0 k1 => ?_)⟩
    · rw [zrow_ne (by omega), hf o k (by omega) (by omega) (by omega), zup_na (by omega)]
    · by_cases c : o = 1465
      · rw [c, zrow_r, f15]
      · rw [zrow_ne c, hf o k (by omega) (by omega) (by omega), zup_nka (by omega)]
    · rw [zrow_ne (by decide), hf _ _ (by decide) (by decide) (by decide), zup_nk (by omega)]
  have rs : zM (true, q) 1899 226 [(20, 1464, 0), (0, x, 0)] (zrow f2 1465 (f 1465), t) = zD (true, q) 1899 zc_M_split (zat zc_M_split 5) [(20, 1464, 0), (0, x, 0), (2, 0, 0), (2, 0, 0), (2, 0, 0), (2, 0, 0)] [(0, n, 0)] (zrow h1 1465 (f 1465), t) := by
    rw [ze_M_split, zb_M_split_0]
    simp (disch := omega) only [Int.reduceAdd, zrow_r, zrow_in, zrow_up, zrow_ne, zupE]
    rw [q1, zK_i]
  have cs : ∀ v, (if n = 0 then 0 else if zcnt (fun l => f 1465 (10 + 265 * l + 0)) (f 1465 3).toNat 0 = 0 then -1 else LG (fun l => f 1465 (10 + 265 * l + 0)) A (f 1465 3).toNat n.toNat 0 (fun _ => 0)) = v → zM (true, q) 1899 223 [(19, 0, 0), (0, x, 0)] (f, t) = (if x ≠ -1 then zD (true, q) 1899 zc_X_split (zat zc_X_split 11) [(19, 0, 0), (0, x, 0), (0, v, 0)] [] (f2, t) else zD (true, q) 1899 zc_X_split (zat zc_X_split 9) [(19, 0, 0), (0, x, 0), (0, v, 0)] [] (f2, t)) := by
    intro v hv
    rw [ze_X_split, zb_X_split_0]
    show zK _ _ _ _ _ _ (zM (true, q) 1898 221 [(17, 317, 0), (18, 23, 0)] (f, t)) = _
    rw [r2, hv, zK_i, zb_X_split_5]
  have lo : ∀ v, zD (true, q) 1899 zc_X_split (zat zc_X_split 11) [(19, 0, 0), (0, x, 0), (0, v, 0)] [] (f2, t) = some ((0, if 0 ≤ x ∧ x < n then f2 319 x else -1, 0), (f2, t)) := by
    intro v
    rw [zb_X_split_11]
    show zK _ _ _ _ _ _ (zM (true, q) 1898 222 [(17, 317, 0), (0, x, 0)] (f2, t)) = _
    rw [ze_Way_lineOfUnit, zb_Way_lineOfUnit_0]
    by_cases c : x < 0
    · rw [if_pos c, zb_Way_lineOfUnit_11, zK_i, zb_X_split_15, if_neg (by omega)]
    · rw [if_neg c, zb_Way_lineOfUnit_2]
      show zK _ _ _ _ _ _ (if f2 317 5 ≤ x then _ else _) = _
      rw [s2]
      by_cases c2 : n ≤ x
      · rw [if_pos c2, zb_Way_lineOfUnit_11, zK_i, zb_X_split_15, if_neg (by omega)]
      · rw [if_neg c2, zb_Way_lineOfUnit_6, s_at (by omega) (by omega), zK_i]
        show zK _ _ _ _ _ _ (zD (true, q) 1898 zc_Way_lineOfUnit (zat zc_Way_lineOfUnit 10) _ [(0, f2 319 x, 0)] (f2, t)) = _
        rw [zb_Way_lineOfUnit_10, zK_i, zb_X_split_15, if_pos (by omega)]
  have fr1' : ∀ o k, o ≠ 1474 → o ≠ 1475 → o ≠ 1477 → h1 o k = zup f2 1464 0 0 o k := fun o k a _ _ => fr1 o k a
  by_cases n0 : n = 0
  · have cs0 := cs 0 (if_pos n0)
    by_cases c : x = -1
    · rw [if_neg (fun z => z c), zb_X_split_9] at cs0
      refine fin 0 h1 cs0 ?_ fr1'
      rw [rs, zb_M_split_5, if_neg (fun z => z n0), zb_M_split_8, if_neg (fun z => z c), zb_M_split_11]
    · rw [if_pos c, lo, if_neg (by omega)] at cs0
      refine fin (-1) h1 cs0 ?_ fr1'
      rw [rs, zb_M_split_5, if_neg (fun z => z n0), zb_M_split_8, if_pos c, zb_M_split_13]
  · have rs2 : zM (true, q) 1899 226 [(20, 1464, 0), (0, x, 0)] (zrow f2 1465 (f 1465), t) = zD (true, q) 1899 zc_M_split (zat zc_M_split 18) [(20, 1464, 0), (0, x, 0), (0, n, 0), (2, 0, 0), (2, 0, 0), (2, 0, 0)] [(0, gIn (f 1465) 2 (f 1465 3).toNat 0 0, 0)] (zrow h1 1465 (f 1465), t) := by
      rw [rs, zb_M_split_5, if_pos n0, zb_M_split_15, r_inState h4.2.1 h4.2.2, zK_i]
    by_cases hc : zcnt (fun l => f 1465 (10 + 265 * l + 0)) (f 1465 3).toNat 0 = 0
    · have cs1 := cs (-1) (by rw [if_neg n0, if_pos hc])
      have hm : zM (true, q) 1899 226 [(20, 1464, 0), (0, x, 0)] (zrow f2 1465 (f 1465), t) = some ((0, -1, 0), (zrow h1 1465 (f 1465), t)) := by
        rw [rs2, zb_M_split_18, if_pos (hcn.2.mpr hc), zb_M_split_29]
      refine fin (-1) h1 ?_ hm fr1'
      by_cases c : x = -1
      · rw [if_neg (fun z => z c), zb_X_split_9] at cs1
        exact cs1
      · rw [if_pos c, lo] at cs1
        by_cases c2 : 0 ≤ x ∧ x < n
        · rw [if_pos c2, no2 hc x c2.1 (by omega)] at cs1
          exact cs1
        · rw [if_neg c2] at cs1
          exact cs1
    · obtain ⟨d1, d2, d3, d4, d5, d6⟩ := due0 hc
      generalize hdue : LG (fun l => f 1465 (10 + 265 * l + 0)) A (f 1465 3).toNat n.toNat 0 (fun _ => 0) = due at *
      have cs1 := cs due (by rw [if_neg n0, if_neg hc])
      have rs3 : zM (true, q) 1899 226 [(20, 1464, 0), (0, x, 0)] (zrow f2 1465 (f 1465), t) = (if x = -1 ∨ (0 ≤ x ∧ x < n) then zD (true, q) 1899 zc_M_split (zat zc_M_split 31) [(20, 1464, 0), (0, x, 0), (0, n, 0), (2, 0, 0), (2, 0, 0), (2, 0, 0)] [] (zrow h1 1465 (f 1465), t) else some ((0, -1, 0), (zrow h1 1465 (f 1465), t))) := by
        rw [rs2, zb_M_split_18, if_neg (fun z => hc (hcn.2.mp z)), zb_M_split_19]
        by_cases c : x = -1
        · rw [if_pos c, if_pos (Or.inl c)]
        · rw [if_neg c, zb_M_split_22, zw_id (z := n - 1) (by omega) (by omega)]
          by_cases c2 : 0 ≤ x ∧ x < n
          · rw [r_isInT c2.1 (by omega), zK_i, zb_M_split_28, if_pos (by decide), if_pos (Or.inr c2)]
          · rw [r_isInF (by omega), zK_i, zb_M_split_28, if_neg (fun z => z rfl), if_neg (by omega), zb_M_split_29]
      have clr : ∃ h3, zD (true, q) 1899 zc_M_split (zat zc_M_split 31) [(20, 1464, 0), (0, x, 0), (0, n, 0), (2, 0, 0), (2, 0, 0), (2, 0, 0)] [] (zrow h1 1465 (f 1465), t) = zD (true, q) 1899 zc_M_split (zat zc_M_split 47) [(20, 1464, 0), (0, x, 0), (0, n, 0), (0, 4, 0), (2, 0, 0), (2, 0, 0)] [(0, due, 0)] (zrow h3 1465 (f 1465), t) ∧ (∀ j, 0 ≤ j → j < 4 → h3 1477 j = 0) ∧ ∀ o k, o ≠ 1477 → h3 o k = h1 o k := by
        have st : ∀ (i : Int) (h : Int → Int → Int), 0 ≤ i → i < 4 → zD (true, q) 1899 zc_M_split (zat zc_M_split 33) [(20, 1464, 0), (0, x, 0), (0, n, 0), (0, i, 0), (2, 0, 0), (2, 0, 0)] [] (zrow h 1465 (f 1465), t) = zD (true, q) 1899 zc_M_split (zat zc_M_split 33) [(20, 1464, 0), (0, x, 0), (0, n, 0), (0, i + 1, 0), (2, 0, 0), (2, 0, 0)] [] (zrow (zup h 1477 i 0) 1465 (f 1465), t) := by
          intro i h i0 i1
          rw [zb_M_split_33, if_neg (by omega), zb_M_split_36, zG2 i0 i1]
          simp (disch := omega) only [Int.reduceAdd, zrow_r, zrow_in, zrow_up, zrow_ne, zupE]
          rw [zb_M_split_41, zw_id (z := i + 1) (by omega) (by omega)]
        have h3j : ∀ j, 0 ≤ j → j < 4 → zup (zup (zup (zup h1 1477 0 0) 1477 1 0) 1477 2 0) 1477 3 0 1477 j = 0 := fun j j0 j1 => by
          rcases (by omega : j = 0 ∨ j = 1 ∨ j = 2 ∨ j = 3) with rfl | rfl | rfl | rfl <;> simp (disch := omega) only [zup_nk, zupE]
        have h3o : ∀ o k, o ≠ 1477 → zup (zup (zup (zup h1 1477 0 0) 1477 1 0) 1477 2 0) 1477 3 0 o k = h1 o k := fun o k a => by rw [zup_na a, zup_na a, zup_na a, zup_na a]
        have hlo := r_longest (q := q) (d := 1897 - n.toNat) (t := t) (g := f 1465) (A := A) (m := (f 1465 3).toNat) (n := n) (by omega) (by omega) z8 zA n.toNat 0 (fun _ => 0) (zup (zup (zup (zup h1 1477 0 0) 1477 1 0) 1477 2 0) 1477 3 0) (Int.le_refl 0) (by omega) (fun l l0 l1 => ⟨h3j l l0 (by omega), Int.le_refl 0, Int.le_refl 0⟩) (fun j j0 j1 => by rw [h3o _ _ (by decide)]; exact a1 j j0 j1)
        rw [hdue, show 1897 - n.toNat + n.toNat + 1 = 1898 by omega] at hlo
        refine ⟨_, ?_, h3j, h3o⟩
        rw [zb_M_split_31, st 0 _ (by decide) (by decide)]
        show zD (true, q) 1899 zc_M_split (zat zc_M_split 33) [(20, 1464, 0), (0, x, 0), (0, n, 0), (0, 1, 0), (2, 0, 0), (2, 0, 0)] [] _ = _
        rw [st 1 _ (by decide) (by decide)]
        show zD (true, q) 1899 zc_M_split (zat zc_M_split 33) [(20, 1464, 0), (0, x, 0), (0, n, 0), (0, 2, 0), (2, 0, 0), (2, 0, 0)] [] _ = _
        rw [st 2 _ (by decide) (by decide)]
        show zD (true, q) 1899 zc_M_split (zat zc_M_split 33) [(20, 1464, 0), (0, x, 0), (0, n, 0), (0, 3, 0), (2, 0, 0), (2, 0, 0)] [] _ = _
        rw [st 3 _ (by decide) (by decide)]
        show zD (true, q) 1899 zc_M_split (zat zc_M_split 33) [(20, 1464, 0), (0, x, 0), (0, n, 0), (0, 4, 0), (2, 0, 0), (2, 0, 0)] [] _ = _
        rw [zb_M_split_33, if_pos (by decide), zb_M_split_43, hlo, zK_i]
      obtain ⟨h3, c3, y3, w3⟩ := clr
      by_cases c : x = -1
      · rw [if_neg (fun z => z c), zb_X_split_9] at cs1
        refine fin due h3 cs1 ?_ (fun o k a b e => (w3 o k e).trans (fr1' o k a b e))
        rw [rs3, if_pos (Or.inl c), c3, zb_M_split_47, if_neg (fun z => z c), zb_M_split_51]
      · rw [if_pos c, lo] at cs1
        by_cases c2 : 0 ≤ x ∧ x < n
        · rw [if_pos c2, ch2 n0 hc x c2.1 c2.2] at cs1
          obtain ⟨h5, r5, fr5⟩ := r_putK (q := q) (t := t) (g := f 1465) (A := A) (m := (f 1465 3).toNat) (n := n) (x := x) (due := due) (by omega) (by omega) z8 zA (by omega) c2.1 c2.2 x.toNat n.toNat 0 (fun _ => 0) (2, 0, 0) h3 (Int.le_refl 0) (by omega) (by omega) (fun l l0 l1 => ⟨y3 l l0 (by omega), Int.le_refl 0, Int.le_refl 0⟩) (fun j j0 j1 => (w3 _ _ (by decide)).trans (a1 j j0 j1)) hdue
          refine fin _ h5 cs1 ?_ (fun o k a b e => (fr5 o k b e).trans ((w3 o k e).trans (fr1' o k a b e)))
          rw [rs3, if_pos (Or.inr c2), c3, zb_M_split_47, if_pos c, zb_M_split_53]
          exact r5
        · rw [if_neg c2] at cs1
          refine fin (-1) h1 cs1 ?_ fr1'
          rw [rs3, if_neg (by omega)]

