/-! ## the tape is fed, and what it tells is taken -/
theorem zand_255 {x : Int} : 0 ≤ zand x 255 ∧ zand x 255 ≤ 255 := by
  have h : ((Int32.ofInt x).toBitVec &&& (Int32.ofInt 255).toBitVec).toNat ≤ 255 := by
    rw [BitVec.toNat_and]
    exact Nat.and_le_right
  have e : zand x 255 = (((Int32.ofInt x).toBitVec &&& (Int32.ofInt 255).toBitVec).toNat : Int) := by
    unfold zand
    rw [← Int32.toInt_toBitVec, Int32.toBitVec_and]
    exact BitVec.toInt_eq_toNat_of_lt (by omega)
  omega
def zp1 (f : Int → Int → Int) (p : Int × Int) : Int → Int → Int := zup (zup f 1 (f 0 12) (zand (zushr p.1 p.2) 255)) 0 12 (f 0 12 + 1)
def rpE (f : Int → Int → Int) (p : Int × Int) : Int → Int → Int := zup (zup f 1469 (f 1464 8) (zand (zushr p.1 p.2) 255)) 1464 8 (f 1464 8 + 1)
def zpL (f : Int → Int → Int) : List (Int × Int) → Int → Int → Int
  | [] => f
  | p :: l => zpL (zp1 f p) l
def rpL (f : Int → Int → Int) : List (Int × Int) → Int → Int → Int
  | [] => f
  | p :: l => rpL (rpE f p) l
theorem zpL_app : ∀ (l l2 : List (Int × Int)) (f : Int → Int → Int), zpL f (l ++ l2) = zpL (zpL f l) l2 := by
  intro l
  induction l with
  | nil => intro l2 f; rfl
  | cons p l ih => intro l2 f; exact ih l2 (zp1 f p)
theorem zp1_s {f : Int → Int → Int} {p : Int × Int} : zp1 f p 0 12 = f 0 12 + 1 := zupE rfl rfl
theorem zpL_s : ∀ (l : List (Int × Int)) (f : Int → Int → Int), zpL f l 0 12 = f 0 12 + l.length := by
  intro l
  induction l with
  | nil => intro f; show f 0 12 = f 0 12 + 0; omega
  | cons p l ih =>
    intro f
    show zpL (zp1 f p) l 0 12 = _
    rw [ih, zp1_s, List.length_cons]
    omega
theorem zpL_fr : ∀ (l : List (Int × Int)) (f : Int → Int → Int) (o k : Int), o ≠ 1 → (o ≠ 0 ∨ k ≠ 12) → zpL f l o k = f o k := by
  intro l
  induction l with
  | nil => intro f o k _ _; rfl
  | cons p l ih =>
    intro f o k h1 h2
    show zpL (zp1 f p) l o k = _
    rw [ih _ o k h1 h2]
    unfold zp1
    rw [zup_nka (by omega), zup_na h1]
theorem rpL_fr : ∀ (l : List (Int × Int)) (f : Int → Int → Int) (o k : Int), o ≠ 1469 → (o ≠ 1464 ∨ k ≠ 8) → rpL f l o k = f o k := by
  intro l
  induction l with
  | nil => intro f o k _ _; rfl
  | cons p l ih =>
    intro f o k h1 h2
    show rpL (rpE f p) l o k = _
    rw [ih _ o k h1 h2]
    unfold rpE
    rw [zup_nka (by omega), zup_na h1]
theorem zRT_L : ∀ (l : List (Int × Int)) (f h : Int → Int → Int), zRT f h → h 1464 8 + l.length ≤ 400 → zRT (zpL f l) (rpL h l) := by
  intro l
  induction l with
  | nil => intro f h z _; exact z
  | cons p l ih =>
    intro f h z hl
    rw [List.length_cons] at hl
    obtain ⟨z1, z2, z3, z4⟩ := z
    have e8 : rpE h p 1464 8 = h 1464 8 + 1 := zupE rfl rfl
    refine ih _ _ ⟨?_, ?_, ?_, fun k k0 k1 => ?_⟩ (by omega)
    · rw [zp1_s, e8, z1]
    · rw [e8]; omega
    · rw [e8]; omega
    · rw [e8] at k1
      have eL : zp1 f p 1 k = zup f 1 (h 1464 8) (zand (zushr p.1 p.2) 255) 1 k := by
        unfold zp1
        rw [zup_na (by decide), z1]
      have eR : rpE h p 1469 k = zup h 1469 (h 1464 8) (zand (zushr p.1 p.2) 255) 1469 k := by
        unfold rpE
        rw [zup_na (by decide)]
      rw [eL, eR]
      by_cases c : k = h 1464 8
      · rw [zupE rfl c, zupE rfl c]
        exact ⟨rfl, zand_255⟩
      · rw [zup_nk c, zup_nk c]
        exact z4 k k0 (by omega)
theorem c_putBytes {q : Int × (Int → Int)} {d : Nat} {t : (Int → Int) × Nat × Nat × Nat × (Int → Int → Bool)} {f : Int → Int → Int} {x : Int} (h0 : 0 ≤ f 0 12) (h4 : f 0 12 + 4 ≤ 400) : zM (true, q) (d + 1) 16 [(19, 0, 0), (0, x, 0)] (f, t) = some ((9, 0, 0), (zpL f [(x, 24), (x, 16), (x, 8), (x, 0)], t)) := by
  have st : ∀ (f : Int → Int → Int) (s : Int), 0 ≤ s → s ≤ 24 → 0 ≤ f 0 12 → f 0 12 < 400 → zD (true, q) (d + 1) zc_X_putBytes (zat zc_X_putBytes 2) [(19, 0, 0), (0, x, 0), (0, s, 0)] [] (f, t) = zD (true, q) (d + 1) zc_X_putBytes (zat zc_X_putBytes 2) [(19, 0, 0), (0, x, 0), (0, s + -8, 0)] [] (zp1 f (x, s), t) := by
    intro f s s0 s1 f0 f1
    rw [zb_X_putBytes_2, if_neg (by omega), zb_X_putBytes_4]
    show zK _ _ _ _ _ _ (zM (true, q) d 15 [(30, 1, 400), (0, f 0 12, 0), (0, zand (zushr x s) 255, 0)] (f, t)) = _
    rw [s_put f0 f1, zK_v, zb_X_putBytes_14]
    show zD (true, q) (d + 1) zc_X_putBytes (zat zc_X_putBytes 2) [(19, 0, 0), (0, x, 0), (0, zw (s + -8), 0)] [] (zup (zup f 1 (f 0 12) (zand (zushr x s) 255)) 0 12 (zw (zup f 1 (f 0 12) (zand (zushr x s) 255) 0 12 + 1)), t) = _
    rw [zup_na (by decide), zw_id (z := s + -8) (by omega) (by omega), zw_id (z := f 0 12 + 1) (by omega) (by omega)]
    rfl
  have s1 : ∀ (f : Int → Int → Int) (s : Int), zp1 f (x, s) 0 12 = f 0 12 + 1 := fun f s => zp1_s
  rw [ze_X_putBytes, zb_X_putBytes_0, st f 24 (by decide) (by decide) h0 (by omega)]
  show zD (true, q) (d + 1) zc_X_putBytes (zat zc_X_putBytes 2) [(19, 0, 0), (0, x, 0), (0, 16, 0)] [] _ = _
  rw [st _ 16 (by decide) (by decide) (by rw [s1]; omega) (by rw [s1]; omega)]
  show zD (true, q) (d + 1) zc_X_putBytes (zat zc_X_putBytes 2) [(19, 0, 0), (0, x, 0), (0, 8, 0)] [] _ = _
  rw [st _ 8 (by decide) (by decide) (by rw [s1, s1]; omega) (by rw [s1, s1]; omega)]
  show zD (true, q) (d + 1) zc_X_putBytes (zat zc_X_putBytes 2) [(19, 0, 0), (0, x, 0), (0, 0, 0)] [] _ = _
  rw [st _ 0 (by decide) (by decide) (by rw [s1, s1, s1]; omega) (by rw [s1, s1, s1]; omega)]
  show zD (true, q) (d + 1) zc_X_putBytes (zat zc_X_putBytes 2) [(19, 0, 0), (0, x, 0), (0, -8, 0)] [] _ = _
  rw [zb_X_putBytes_2, if_pos (by decide), zb_X_putBytes_22]
  rfl
def feL (x1 x2 x3 x4 x5 : Int) : Nat → Int → List (Int × Int)
  | 0, _ => []
  | k + 1, i => (if i < 4 then x1 else if i < 8 then x2 else if i < 12 then x3 else if i < 16 then x4 else x5, 24 - 8 * (i % 4)) :: feL x1 x2 x3 x4 x5 k (i + 1)
theorem feL_20 {x1 x2 x3 x4 x5 : Int} : feL x1 x2 x3 x4 x5 20 0 = [(x1, 24), (x1, 16), (x1, 8), (x1, 0)] ++ ([(x2, 24), (x2, 16), (x2, 8), (x2, 0)] ++ ([(x3, 24), (x3, 16), (x3, 8), (x3, 0)] ++ ([(x4, 24), (x4, 16), (x4, 8), (x4, 0)] ++ [(x5, 24), (x5, 16), (x5, 8), (x5, 0)]))) := rfl
theorem feL_len {x1 x2 x3 x4 x5 : Int} : ∀ (k : Nat) (i : Int), (feL x1 x2 x3 x4 x5 k i).length = k := by
  intro k
  induction k with
  | zero => intro i; rfl
  | succ k ih => intro i; show (feL x1 x2 x3 x4 x5 k (i + 1)).length + 1 = _; rw [ih]
theorem lr_feed {q : Int × (Int → Int)} {d : Nat} {t : (Int → Int) × Nat × Nat × Nat × (Int → Int → Bool)} {x1 x2 x3 x4 x5 : Int} : ∀ (k : Nat) (i : Int) (v7 : zV) (h : Int → Int → Int), 0 ≤ i → i + k = 20 → 0 ≤ h 1464 8 → h 1464 8 + k ≤ 400 → zD (true, q) d zc_M_feed (zat zc_M_feed 13) [(20, 1464, 0), (0, x1, 0), (0, x2, 0), (0, x3, 0), (0, x4, 0), (0, x5, 0), (0, i, 0), v7] [] (h, t) = some ((0, h 1464 8 + k, 0), (rpL h (feL x1 x2 x3 x4 x5 k i), t)) := by
  intro k
  induction k with
  | zero =>
    intro i v7 h i0 hk h0 h1
    rw [zb_M_feed_13, if_pos (by omega), zb_M_feed_62]
    show some ((0, h 1464 8, 0), (h, t)) = some ((0, h 1464 8 + 0, 0), (h, t))
    rw [Int.add_zero]
  | succ k ih =>
    intro i v7 h i0 hk h0 h1
    generalize hv : (if i < 4 then x1 else if i < 8 then x2 else if i < 12 then x3 else if i < 16 then x4 else x5) = v
    have m4 : zrem i 4 = i % 4 := Int.tmod_eq_emod_of_nonneg i0
    have key : zD (true, q) d zc_M_feed (zat zc_M_feed 13) [(20, 1464, 0), (0, x1, 0), (0, x2, 0), (0, x3, 0), (0, x4, 0), (0, x5, 0), (0, i, 0), v7] [] (h, t) = zD (true, q) d zc_M_feed (zat zc_M_feed 48) [(20, 1464, 0), (0, x1, 0), (0, x2, 0), (0, x3, 0), (0, x4, 0), (0, x5, 0), (0, i, 0), (0, v, 0)] [(0, zrem i 4, 0), (0, 8, 0), (0, 24, 0), (0, v, 0), (0, h 1464 8, 0), (30, 1469, 400)] (h, t) := by
      rw [zb_M_feed_13, if_neg (by omega), zb_M_feed_16]
      by_cases c1 : i < 4
      · rw [if_neg (by omega), zb_M_feed_19, zG1 (by decide), ← hv, if_pos c1]
        rfl
      · rw [if_pos (by omega), zb_M_feed_21]
        by_cases c2 : i < 8
        · rw [if_neg (by omega), zb_M_feed_24, zG1 (by decide), ← hv, if_neg c1, if_pos c2]
          rfl
        · rw [if_pos (by omega), zb_M_feed_26]
          by_cases c3 : i < 12
          · rw [if_neg (by omega), zb_M_feed_29, zG1 (by decide), ← hv, if_neg c1, if_neg c2, if_pos c3]
            rfl
          · rw [if_pos (by omega), zb_M_feed_31]
            by_cases c4 : i < 16
            · rw [if_neg (by omega), zb_M_feed_34, zG1 (by decide), ← hv, if_neg c1, if_neg c2, if_neg c3, if_pos c4]
              rfl
            · rw [if_pos (by omega), zb_M_feed_36, zG1 (by decide), ← hv, if_neg c1, if_neg c2, if_neg c3, if_neg c4]
              rfl
    have e8 : rpE h (v, 24 - 8 * (i % 4)) 1464 8 = h 1464 8 + 1 := zupE rfl rfl
    rw [key, zb_M_feed_48, zG2 h0 (by omega), m4, zw_id (z := 8 * (i % 4)) (by omega) (by omega), zw_id (z := 24 - 8 * (i % 4)) (by omega) (by omega), zb_M_feed_54]
    show zD (true, q) d zc_M_feed (zat zc_M_feed 13) [(20, 1464, 0), (0, x1, 0), (0, x2, 0), (0, x3, 0), (0, x4, 0), (0, x5, 0), (0, zw (i + 1), 0), (0, v, 0)] [] (zup (zup h 1469 (h 1464 8) (zand (zushr v (24 - 8 * (i % 4))) 255)) 1464 8 (zw (zup h 1469 (h 1464 8) (zand (zushr v (24 - 8 * (i % 4))) 255) 1464 8 + 1)), t) = _
    rw [zup_na (b := 1464) (by decide), zw_id (z := i + 1) (by omega) (by omega), zw_id (z := h 1464 8 + 1) (by omega) (by omega)]
    have := ih (i + 1) (0, v, 0) (rpE h (v, 24 - 8 * (i % 4))) (by omega) (by omega) (by omega) (by omega)
    rw [e8] at this
    have ef : feL x1 x2 x3 x4 x5 (k + 1) i = (v, 24 - 8 * (i % 4)) :: feL x1 x2 x3 x4 x5 k (i + 1) := by rw [← hv]; rfl
    rw [ef, show h 1464 8 + ((k + 1 : Nat) : Int) = h 1464 8 + 1 + k by omega]
    exact this
theorem o_feed {q : Int × (Int → Int)} {N : Int} {f : Int → Int → Int} {t : (Int → Int) × Nat × Nat × Nat × (Int → Int → Bool)} {x1 x2 x3 x4 x5 : Int} (hR : ZR N f f) : zOu q N f t 17 [(19, 0, 0), (0, x1, 0), (0, x2, 0), (0, x3, 0), (0, x4, 0), (0, x5, 0)] 18 [(20, 1464, 0), (0, x1, 0), (0, x2, 0), (0, x3, 0), (0, x4, 0), (0, x5, 0)] := by
  have hT := hR.2.2.2.1
  obtain ⟨t1, t2, t3, t4⟩ := id hT
  by_cases c : f 1464 8 + 20 ≤ 400
  · generalize hl : feL x1 x2 x3 x4 x5 20 0 = l
    have hlen : (l.length : Int) = 20 := by rw [← hl, feL_len]; rfl
    have hx : zM (true, q) 1899 17 [(19, 0, 0), (0, x1, 0), (0, x2, 0), (0, x3, 0), (0, x4, 0), (0, x5, 0)] (f, t) = some ((0, f 1464 8 + 20, 0), (zpL f l, t)) := by
      have s4 : ∀ (f : Int → Int → Int) (x : Int), zpL f [(x, 24), (x, 16), (x, 8), (x, 0)] 0 12 = f 0 12 + 4 := fun f x => zpL_s _ f
      have z20 : zpL f l 0 12 = f 1464 8 + 20 := by rw [zpL_s, hlen, t1]
      rw [ze_X_feed, zb_X_feed_0]
      show (if zw (f 0 12 + 20) ≤ 400 then _ else _) = _
      rw [zw_id (by omega) (by omega), if_pos (by omega), zb_X_feed_8, c_putBytes (by omega) (by omega), zK_v, zb_X_feed_11, c_putBytes (by rw [s4]; omega) (by rw [s4]; omega), zK_v, zb_X_feed_14, c_putBytes (by rw [s4, s4]; omega) (by rw [s4, s4]; omega), zK_v, zb_X_feed_17, c_putBytes (by rw [s4, s4, s4]; omega) (by rw [s4, s4, s4]; omega), zK_v, zb_X_feed_20, c_putBytes (by rw [s4, s4, s4, s4]; omega) (by rw [s4, s4, s4, s4]; omega), zK_v, zb_X_feed_23, ← zpL_app, ← zpL_app, ← zpL_app, ← zpL_app]
      rw [← hl, feL_20] at z20 ⊢
      exact congrArg (fun z => some ((0, z, 0), _)) z20
    have h8 : zup (zpL f l) 1464 0 0 1464 8 = f 1464 8 := by
      rw [zup_nk (by decide), zpL_fr _ _ _ _ (by omega) (by omega)]
    have hm : zM (true, q) 1899 18 [(20, 1464, 0), (0, x1, 0), (0, x2, 0), (0, x3, 0), (0, x4, 0), (0, x5, 0)] (zpL f l, t) = some ((0, f 1464 8 + 20, 0), (rpL (zup (zpL f l) 1464 0 0) l, t)) := by
      rw [ze_M_feed, zb_M_feed_0]
      show (if zw (zup (zpL f l) 1464 0 0 1464 8 + 20) ≤ 400 then _ else _) = _
      rw [h8, zw_id (by omega) (by omega), if_pos c, zb_M_feed_11, lr_feed 20 0 _ _ (by decide) rfl (by show 0 ≤ zup (zpL f l) 1464 0 0 1464 8; omega) (by show zup (zpL f l) 1464 0 0 1464 8 + _ ≤ 400; omega), hl]
      show some ((0, zup (zpL f l) 1464 0 0 1464 8 + 20, 0), _) = _
      rw [h8]
    have hz : zRT (zpL f l) (rpL (zup (zpL f l) 1464 0 0) l) := by
      refine zRT_L l f _ ⟨?_, ?_, ?_, fun k k0 k1 => ?_⟩ (by omega)
      · rw [h8]; exact t1
      · rw [h8]; exact t2
      · rw [h8]; exact t3
      · rw [h8] at k1
        rw [zup_na (by decide), zpL_fr _ _ _ _ (by omega) (by omega)]
        exact t4 k k0 k1
    refine ⟨_, _, t, _, hx, hm, ZR_t hR (fun o k ho => ?_) (fun o k ho => ?_) ?_, zTt_refl⟩
    · rw [rpL_fr _ _ _ _ (by omega) (by omega), zup_na (by omega), zpL_fr _ _ _ _ (by omega) (by omega)]
    · rw [rpL_fr _ _ _ _ (by omega) (by omega), zup_nka (by omega), zpL_fr _ _ _ _ (by omega) (by omega)]
    · have e1 : rpL (zup (zpL f l) 1464 0 0) l 0 12 = zpL f l 0 12 := by rw [rpL_fr _ _ _ _ (by omega) (by omega), zup_na (by decide)]
      have e2 : ∀ k, rpL (zup (zpL f l) 1464 0 0) l 1 k = zpL f l 1 k := fun k => by rw [rpL_fr _ _ _ _ (by omega) (by omega), zup_na (by decide)]
      refine ⟨e1.trans hz.1, hz.2.1, hz.2.2.1, fun k k0 k1 => ?_⟩
      rw [e2]
      exact hz.2.2.2 k k0 k1
  · refine zOu_1 (v := -1) hR ?_ ?_
    · rw [ze_X_feed, zb_X_feed_0]
      show (if zw (f 0 12 + 20) ≤ 400 then _ else _) = _
      rw [zw_id (by omega) (by omega), if_neg (by omega), zb_X_feed_6]
    · have e : zrow (zup f 1464 0 0) 1465 (f 1465) = zup f 1464 0 0 := by
        rw [show f 1465 = zup f 1464 0 0 1465 from (zup_row (by decide)).symm, zrow_id]
      rw [zrow_id, e, ze_M_feed, zb_M_feed_0]
      show (if zw (zup f 1464 0 0 1464 8 + 20) ≤ 400 then _ else _) = _
      rw [zup_nk (by decide), zw_id (by omega) (by omega), if_neg c, zb_M_feed_9]
/-! ### what a far end would take -/
theorem zOw_tp {q : Int × (Int → Int)} {N : Int} {f f1 : Int → Int → Int} {t t1 : (Int → Int) × Nat × Nat × Nat × (Int → Int → Bool)} {k m : Nat} {ka ma : List zV} {code v : Int} (hR : ZR N f f) (hk : zM (true, q) 1899 k ka (f, t) = some ((0, code, 0), (f1, t1))) (ht : zTt t t1) (e : ∀ o k, ((o = 0 ∧ 13 ≤ k) ∨ (2 ≤ o ∧ o < 8) ∨ (16 ≤ o ∧ o < 22) ∨ (23 ≤ o ∧ o < 45) ∨ (46 ≤ o ∧ o < 118) ∨ (213 ≤ o ∧ o < 308) ∨ (324 ≤ o ∧ o ≠ 1478)) → f1 o k = f o k) (z : f1 0 12 = 0) (hm : zM (true, q) 1899 m ma (f1, t1) = some ((0, v, 0), (zup (zup f1 1464 8 0) 1464 0 code, t1))) (hv : code = 0 → f1 1478 0 = v) : zOw q N f t k ka m ma := by
  refine ⟨code, v, f1, t1, _, hk, hm, zupE rfl rfl, fun c => ?_, ZR_t hR (fun o k ho => ?_) (fun o k ho => ?_) ⟨?_, ?_, ?_, fun k k0 k1 => ?_⟩, ht⟩
  · rw [zup_na (by decide), zup_na (by decide)]
    exact hv c
  · rw [zup_na (by omega), zup_na (by omega)]
    exact e o k (by omega)
  · rw [zup_nka (by omega), zup_nka (by omega)]
    exact e o k (by omega)
  · rw [zup_na (by decide), zup_na (by decide), zup_nk (by decide), zupE rfl rfl, z]
  · rw [zup_nk (by decide), zupE rfl rfl]; decide
  · rw [zup_nk (by decide), zupE rfl rfl]; decide
  · rw [zup_nk (by decide), zupE rfl rfl] at k1
    omega
def tkR (T : Int → Int) : Nat → Int → Int → Int
  | 0, _, x => x
  | k + 1, i, x => tkR T k (i + 1) (if T i < 16 then x else 0)
def tkN (T : Int → Int) : Nat → Int → Int → Int
  | 0, _, c => c
  | k + 1, i, c => tkN T k (i + 1) (if T i = c % 16 then c + 1 else c)
theorem tkR_0 {T : Int → Int} : ∀ (k : Nat) (i : Int), tkR T k i 0 = 0 := by
  intro k
  induction k with
  | zero => intro i; rfl
  | succ k ih =>
    intro i
    show tkR T k (i + 1) (if T i < 16 then 0 else 0) = 0
    rw [ite_self, ih]
theorem tkR_01 {T : Int → Int} : ∀ (k : Nat) (i x : Int), x = 0 ∨ x = 1 → tkR T k i x = 0 ∨ tkR T k i x = 1 := by
  intro k
  induction k with
  | zero => intro i x h; exact h
  | succ k ih =>
    intro i x h
    refine ih (i + 1) _ ?_
    split
    · exact h
    · exact Or.inl rfl
theorem o_takes {q : Int × (Int → Int)} {N : Int} {f : Int → Int → Int} {t : (Int → Int) × Nat × Nat × Nat × (Int → Int → Bool)} {x : Int} (hR : ZR N f f) : zOw q N f t 228 [(19, 0, 0), (0, x, 0), (31, 1478, 1)] 229 [(20, 1464, 0), (0, x, 0)] := by
  obtain ⟨t1, t2, t3, t4⟩ := hR.2.2.2.1
  generalize hn : f 1464 8 = n at t1 t2 t3 t4
  have cl : ∀ (k : Nat) (i r c : Int) (u5 : zV), 0 ≤ i → i + k = n → 0 ≤ c → c ≤ i → ∃ v4 v5, zD (true, q) 1898 zc_X_takes (zat zc_X_takes 12) [(19, 0, 0), (0, x, 0), (0, r, 0), (0, c, 0), (0, i, 0), u5] [] (f, t) = zD (true, q) 1898 zc_X_takes (zat zc_X_takes 34) [(19, 0, 0), (0, x, 0), (0, tkR (f 1469) k i r, 0), (0, tkN (f 1469) k i c, 0), (0, v4, 0), v5] [] (f, t) := by
    intro k
    induction k with
    | zero =>
      intro i r c u5 i0 hk c0 ci
      refine ⟨i, u5, ?_⟩
      rw [zb_X_takes_12]
      show (if f 0 12 ≤ i then _ else _) = _
      rw [if_pos (by omega)]
      rfl
    | succ k ih =>
      intro i r c u5 i0 hk c0 ci
      have e := (t4 i i0 (by omega)).1
      have m16 : zrem c 16 = c % 16 := Int.tmod_eq_emod_of_nonneg c0
      have run : ∀ r2, zD (true, q) 1898 zc_X_takes (zat zc_X_takes 30) [(19, 0, 0), (0, x, 0), (0, r2, 0), (0, c, 0), (0, i, 0), (0, f 1469 i, 0)] [(0, c % 16, 0), (0, f 1469 i, 0)] (f, t) = zD (true, q) 1898 zc_X_takes (zat zc_X_takes 12) [(19, 0, 0), (0, x, 0), (0, r2, 0), (0, if f 1469 i = c % 16 then c + 1 else c, 0), (0, i + 1, 0), (0, f 1469 i, 0)] [] (f, t) := by
        intro r2
        rw [zb_X_takes_30]
        by_cases c2 : f 1469 i = c % 16
        · rw [if_neg (fun z => z c2), if_pos c2, zb_X_takes_31, zw_id (z := c + 1) (by omega) (by omega), zw_id (z := i + 1) (by omega) (by omega)]
        · rw [if_pos c2, if_neg c2, zb_X_takes_32, zw_id (z := i + 1) (by omega) (by omega)]
      obtain ⟨w4, w5, r5⟩ := ih (i + 1) (if f 1469 i < 16 then r else 0) (if f 1469 i = c % 16 then c + 1 else c) (0, f 1469 i, 0) (by omega) (by omega) (by split <;> omega) (by split <;> omega)
      refine ⟨w4, w5, ?_⟩
      show _ = zD (true, q) 1898 zc_X_takes (zat zc_X_takes 34) [(19, 0, 0), (0, x, 0), (0, tkR (f 1469) k (i + 1) (if f 1469 i < 16 then r else 0), 0), (0, tkN (f 1469) k (i + 1) (if f 1469 i = c % 16 then c + 1 else c), 0), (0, w4, 0), w5] [] (f, t)
      rw [← r5, zb_X_takes_12]
      show (if f 0 12 ≤ i then _ else _) = _
      rw [if_neg (by omega), zb_X_takes_16]
      show zK _ _ _ _ _ _ (zM (true, q) 1897 22 [(30, 1, 400), (0, i, 0)] (f, t)) = _
      rw [s_at i0 (by omega), zK_i]
      show zD (true, q) 1898 zc_X_takes (zat zc_X_takes 20) _ [(0, f 1 i, 0)] (f, t) = _
      rw [e, zb_X_takes_20]
      by_cases c1 : f 1469 i < 16
      · rw [if_pos c1, if_pos c1, zb_X_takes_26, zG1 (by decide), m16, run]
      · rw [if_neg c1, if_neg c1, zb_X_takes_24, zG1 (by decide), m16, run]
  obtain ⟨w4, w5, r5⟩ := cl n.toNat 0 (if 40 < n then 0 else 1) 0 (2, 0, 0) (by decide) (by omega) (by decide) (by decide)
  generalize hr : tkR (f 1469) n.toNat 0 (if 40 < n then 0 else 1) = rr at r5
  have hr01 : rr = 0 ∨ rr = 1 := by
    rw [← hr]
    exact tkR_01 _ _ _ (by split <;> simp)
  have run0 : zM (true, q) 1898 227 [(19, 0, 0), (0, x, 0)] (f, t) = zD (true, q) 1898 zc_X_takes (zat zc_X_takes 34) [(19, 0, 0), (0, x, 0), (0, rr, 0), (0, tkN (f 1469) n.toNat 0 0, 0), (0, w4, 0), w5] [] (f, t) := by
    rw [← r5, ze_X_takes, zb_X_takes_0]
    show (if 40 < f 0 12 then _ else _) = _
    rw [t1]
    by_cases c : 40 < n
    · rw [if_pos c, if_pos c, zb_X_takes_6]
    · rw [if_neg c, if_neg c, zb_X_takes_4]
  -- the reference's first loop
  have rl : ∀ (h : Int → Int → Int) (s : (Int → Int) × Nat × Nat × Nat × (Int → Int → Bool)), (∀ j, h 1469 j = f 1469 j) → ∀ (k : Nat) (i r : Int), 0 ≤ i → i + k = n → (r = 0 ∨ r = 1) → ∃ v4, zD (true, q) 1899 zc_M_takes (zat zc_M_takes 15) [(20, 1464, 0), (0, x, 0), (0, n, 0), (0, r, 0), (0, i, 0), (2, 0, 0), (2, 0, 0)] [] (h, s) = zD (true, q) 1899 zc_M_takes (zat zc_M_takes 32) [(20, 1464, 0), (0, x, 0), (0, n, 0), (0, tkR (f 1469) k i r, 0), (0, v4, 0), (2, 0, 0), (2, 0, 0)] [] (h, s) := by
    intro h s hh k
    induction k with
    | zero =>
      intro i r i0 hk h01
      exact ⟨i, by rw [zb_M_takes_15, if_pos (by omega)]; rfl⟩
    | succ k ih =>
      intro i r i0 hk h01
      by_cases c0 : r = 0
      · refine ⟨i, ?_⟩
        rw [c0, tkR_0, zb_M_takes_15, if_neg (by omega), zb_M_takes_18, if_pos rfl]
      · obtain ⟨w4, r5⟩ := ih (i + 1) (if f 1469 i < 16 then r else 0) (by omega) (by omega) (by split <;> omega)
        refine ⟨w4, ?_⟩
        show _ = zD (true, q) 1899 zc_M_takes (zat zc_M_takes 32) [(20, 1464, 0), (0, x, 0), (0, n, 0), (0, tkR (f 1469) k (i + 1) (if f 1469 i < 16 then r else 0), 0), (0, w4, 0), (2, 0, 0), (2, 0, 0)] [] (h, s)
        rw [← r5, zb_M_takes_15, if_neg (by omega), zb_M_takes_18, if_neg c0, zb_M_takes_20, zG2 i0 (by omega)]
        show zD (true, q) 1899 zc_M_takes (zat zc_M_takes 24) [(20, 1464, 0), (0, x, 0), (0, n, 0), (0, r, 0), (0, i, 0), (2, 0, 0), (2, 0, 0)] [(0, h 1469 i, 0)] (h, s) = _
        rw [hh, zb_M_takes_24]
        by_cases c1 : f 1469 i < 16
        · rw [if_neg (by omega), if_pos c1, zb_M_takes_26, zw_id (by omega) (by omega), show r = 1 by omega]
        · rw [if_pos (by omega), if_neg c1, zb_M_takes_28, zw_id (by omega) (by omega)]
  have rl2 : ∀ (h : Int → Int → Int) (s : (Int → Int) × Nat × Nat × Nat × (Int → Int → Bool)), (∀ j, h 1469 j = f 1469 j) → ∀ (k : Nat) (i c : Int), 0 ≤ i → i + k = n → 0 ≤ c → c ≤ i → ∃ v4, zD (true, q) 1899 zc_M_takes (zat zc_M_takes 49) [(20, 1464, 0), (0, x, 0), (0, n, 0), (0, rr, 0), (0, c % 16, 0), (0, c, 0), (0, i, 0)] [] (h, s) = zD (true, q) 1899 zc_M_takes (zat zc_M_takes 68) [(20, 1464, 0), (0, x, 0), (0, n, 0), (0, rr, 0), (0, tkN (f 1469) k i c % 16, 0), (0, tkN (f 1469) k i c, 0), (0, v4, 0)] [] (h, s) := by
    intro h s hh k
    induction k with
    | zero =>
      intro i c i0 hk c0 ci
      exact ⟨i, by rw [zb_M_takes_49, if_pos (by omega)]; rfl⟩
    | succ k ih =>
      intro i c i0 hk c0 ci
      obtain ⟨w4, r5⟩ := ih (i + 1) (if f 1469 i = c % 16 then c + 1 else c) (by omega) (by omega) (by split <;> omega) (by split <;> omega)
      refine ⟨w4, ?_⟩
      show _ = zD (true, q) 1899 zc_M_takes (zat zc_M_takes 68) [(20, 1464, 0), (0, x, 0), (0, n, 0), (0, rr, 0), (0, tkN (f 1469) k (i + 1) (if f 1469 i = c % 16 then c + 1 else c) % 16, 0), (0, tkN (f 1469) k (i + 1) (if f 1469 i = c % 16 then c + 1 else c), 0), (0, w4, 0)] [] (h, s)
      rw [← r5, zb_M_takes_49, if_neg (by omega), zb_M_takes_52, zG2 i0 (by omega)]
      show zD (true, q) 1899 zc_M_takes (zat zc_M_takes 56) [(20, 1464, 0), (0, x, 0), (0, n, 0), (0, rr, 0), (0, c % 16, 0), (0, c, 0), (0, i, 0)] [(0, h 1469 i, 0)] (h, s) = _
      rw [hh, zb_M_takes_56]
      by_cases c1 : f 1469 i = c % 16
      · rw [if_pos c1, if_pos c1, zb_M_takes_59, zG1 (by decide), zb_M_takes_64, zw_id (z := c % 16 + 1) (by omega) (by omega), zw_id (z := c + 1) (by omega) (by omega), zw_id (z := i + 1) (by omega) (by omega), show zrem (c % 16 + 1) 16 = (c + 1) % 16 from (Int.tmod_eq_emod_of_nonneg (by omega)).trans (by omega)]
      · rw [if_neg c1, if_neg c1, zb_M_takes_58, zw_id (z := i + 1) (by omega) (by omega)]
  have tk0 : ∀ (k : Nat) (i c : Int), 0 ≤ c → 0 ≤ tkN (f 1469) k i c := by
    intro k
    induction k with
    | zero => intro i c h; exact h
    | succ k ih => intro i c h; exact ih (i + 1) _ (by split <;> omega)
  have tkp := tk0 n.toNat 0 0 (by decide)
  -- all that the reference does
  have rr1 : ∀ (h : Int → Int → Int) (s : (Int → Int) × Nat × Nat × Nat × (Int → Int → Bool)), h 1464 8 = n → (∀ j, h 1469 j = f 1469 j) → ∃ v4, zM (true, q) 1899 229 [(20, 1464, 0), (0, x, 0)] (h, s) = zD (true, q) 1899 zc_M_takes (zat zc_M_takes 32) [(20, 1464, 0), (0, x, 0), (0, n, 0), (0, rr, 0), (0, v4, 0), (2, 0, 0), (2, 0, 0)] [] (zup h 1464 8 0, s) := by
    intro h s h8 hh
    obtain ⟨w4, r6⟩ := rl (zup h 1464 8 0) s (fun j => (zup_na (by decide)).trans (hh j)) n.toNat 0 (if 40 < n then 0 else 1) (by decide) (by omega) (by split <;> simp)
    rw [hr] at r6
    refine ⟨w4, ?_⟩
    rw [← r6, ze_M_takes, zb_M_takes_0]
    show (if 40 < h 1464 8 then zD _ _ _ _ [_, _, (0, h 1464 8, 0), _, _, _, _] _ _ else _) = _
    rw [h8]
    by_cases c : 40 < n
    · rw [if_pos c, if_pos c, zb_M_takes_11]
    · rw [if_neg c, if_neg c]
      show zD (true, q) 1899 zc_M_takes (zat zc_M_takes 9) [_, _, (0, h 1464 8, 0), _, _, _, _] _ _ = _
      rw [h8, zb_M_takes_9]
  rcases hr01 with r0 | r1
  · have hx : zM (true, q) 1898 227 [(19, 0, 0), (0, x, 0)] (f, t) = some ((100, 0, 0), (zup f 0 12 0, zThr t)) := by
      rw [run0, r0, zb_X_takes_34, if_neg (fun z => z rfl), zb_X_takes_39]
      rfl
    obtain ⟨v4, rm⟩ := rr1 (zup f 0 12 0) (zThr t) ((zup_na (by decide)).trans hn) (fun j => zup_na (by decide))
    refine zOw_tp (v := 0) hR (k_takes_100 hx) zTt_thr (fun o k ho => zup_nka (by omega)) (zupE rfl rfl) ?_ (fun z => absurd z (by decide))
    rw [rm, r0, zb_M_takes_32, if_pos rfl, zb_M_takes_37, if_neg (fun z => z rfl), zb_M_takes_41]
  · have hx : zM (true, q) 1898 227 [(19, 0, 0), (0, x, 0)] (f, t) = some ((0, if x = 0 then tkN (f 1469) n.toNat 0 0 else tkN (f 1469) n.toNat 0 0 % 16, 0), (zup f 0 12 0, t)) := by
      rw [run0, r1, zb_X_takes_34, if_pos (by decide), zb_X_takes_44]
      by_cases c : x = 0
      · rw [if_pos c, if_pos c, zb_X_takes_50]
      · rw [if_neg c, if_neg c, zb_X_takes_46, zG1 (by decide), zb_X_takes_49, show zrem (tkN (f 1469) n.toNat 0 0) 16 = tkN (f 1469) n.toNat 0 0 % 16 from Int.tmod_eq_emod_of_nonneg tkp]
    have hk := k_takes_v hx
    generalize hV : (if x = 0 then tkN (f 1469) n.toNat 0 0 else tkN (f 1469) n.toNat 0 0 % 16) = V at hk
    obtain ⟨v4, rm⟩ := rr1 (zup (zup f 0 12 0) 1478 0 V) t (by rw [zup_na (by decide), zup_na (by decide)]; exact hn) (fun j => by rw [zup_na (by decide), zup_na (by decide)])
    refine zOw_tp (v := V) hR hk zTt_refl (fun o k ho => (zup_na (by omega)).trans (zup_nka (by omega))) (by show zup (zup f 0 12 0) 1478 0 V 0 12 = 0; rw [zup_na (by decide), zupE rfl rfl]) ?_ (fun _ => zupE rfl rfl)
    obtain ⟨w4, rm2⟩ := rl2 (zup (zup (zup (zup f 0 12 0) 1478 0 V) 1464 8 0) 1464 0 0) t (fun j => by rw [zup_na (by decide), zup_na (by decide), zup_na (by decide), zup_na (by decide)]) n.toNat 0 0 (by decide) (by omega) (by decide) (by decide)
    rw [rm, r1, zb_M_takes_32, if_neg (by decide), zb_M_takes_35, if_pos (by decide), zb_M_takes_43]
    rw [r1] at rm2
    refine Eq.trans rm2 ?_
    rw [zb_M_takes_68]
    by_cases c : x = 0
    · rw [if_pos c, zb_M_takes_72, ← hV, if_pos c]
    · rw [if_neg c, zb_M_takes_70, ← hV, if_neg c]

