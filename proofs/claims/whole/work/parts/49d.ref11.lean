/-! ## the other form: goesOver, whole -/
theorem rLeaves_out {g : Int → Int} {B n j : Int} (h : j ≠ B + 7) (h2 : j < B + 17 ∨ B + 17 + 4 * (g (B + 7) - n) ≤ j) : rLeaves g B n j = g j := (zup1_ne h).trans (msh_out h2)
def rG1 (g : Int → Int) (B : Int) : Int → Int := rLeaves g B (rAhead g B (g (B + 11)))
def rGov (f : Int → Int → Int) (g : Int → Int) (B : Int) : Int → Int := rOv2 (rG1 g B) B (rG1 g B (B + 7)) (rG1 g B (B + 6)) (rOv1 (rG1 g B) B (rG1 g B (B + 7)) (f 1473))
def rG2 (g : Int → Int) (B : Int) : Int → Int := zup1 (zup1 (rG1 g B) (B + 7) 0) (B + 6) 0
def rGto (g : Int → Int) (l : Int) : Int := rOth (rG2 g (10 + 265 * l)) l
def rGw (g : Int → Int) (l : Int) : Int := if rGto g l = -1 then l else rGto g l
def rGk (g : Int → Int) (l : Int) : Int := rWent (rG1 g (10 + 265 * l) (10 + 265 * l + 7) + rG1 g (10 + 265 * l) (10 + 265 * l + 6)) (rG2 g (10 + 265 * l) (10 + 265 * rGw g l + 6))
def rGv (g : Int → Int) (l : Int) : Int := if rGto g l = -1 then 0 else rGk g l
def rGo (f : Int → Int → Int) (g : Int → Int) (l : Int) : Int → Int := rLog (rAnew (rApp (rG2 g (10 + 265 * l)) (10 + 265 * rGw g l) (rGov f g (10 + 265 * l)) (rGk g l)) (10 + 265 * l)) l 5 (rGv g l)
theorem r_goesOver {q : Int × (Int → Int)} {d : Nat} {f : Int → Int → Int} {t : (Int → Int) × Nat × Nat × Nat × (Int → Int → Bool)} {g : Int → Int} {l : Int} (hl : 0 ≤ l) (hlm : l < g 3) (hm : g 3 ≤ 4) (hk : ∀ o, 0 ≤ o → o < g 3 → 0 ≤ g (10 + 265 * o + 7) ∧ g (10 + 265 * o + 7) ≤ 8 ∧ 0 ≤ g (10 + 265 * o + 6) ∧ g (10 + 265 * o + 6) ≤ 96) (g0 : 0 ≤ g 8) (g60 : g 8 ≤ 60) : zM (true, q) (d + 3) 166 [(20, 1464, 0), (0, l, 0)] (zrow f 1465 g, t) = some ((0, rGv g l, 0), (zrow (zrow f 1473 (rGov f g (10 + 265 * l))) 1465 (rGo f g l), t)) := by
  have hl4 : l < 4 := by omega
  obtain ⟨k0, k8, q0, q9⟩ := hk l hl hlm
  have hr := rAhead_rng (g := g) (B := 10 + 265 * l) (n := g (10 + 265 * l + 11)) k0
  have a7 : rG1 g (10 + 265 * l) (10 + 265 * l + 7) = g (10 + 265 * l + 7) - rAhead g (10 + 265 * l) (g (10 + 265 * l + 11)) := zup1_eq rfl
  have a6 : rG1 g (10 + 265 * l) (10 + 265 * l + 6) = g (10 + 265 * l + 6) := rLeaves_out (by omega) (by omega)
  have ao : ∀ j, (j < 10 + 265 * l ∨ 10 + 265 * l + 49 ≤ j) → rG2 g (10 + 265 * l) j = g j := fun j hj => (zup1_ne (by omega)).trans ((zup1_ne (by omega)).trans (rLeaves_out (by omega) (by omega)))
  have b6 : rG2 g (10 + 265 * l) (10 + 265 * l + 6) = 0 := zup1_eq rfl
  have b7 : rG2 g (10 + 265 * l) (10 + 265 * l + 7) = 0 := (zup1_ne (by omega)).trans (zup1_eq rfl)
  have hk2 : ∀ o, 0 ≤ o → o < rG2 g (10 + 265 * l) 3 → 0 ≤ rG2 g (10 + 265 * l) (10 + 265 * o + 7) ∧ rG2 g (10 + 265 * l) (10 + 265 * o + 7) ≤ 8 ∧ 0 ≤ rG2 g (10 + 265 * l) (10 + 265 * o + 6) ∧ rG2 g (10 + 265 * l) (10 + 265 * o + 6) ≤ 96 := by
    intro o h1 h2
    rw [ao 3 (by omega)] at h2
    by_cases ho : o = l
    · subst ho
      rw [b6, b7]
      omega
    · rw [ao _ (by omega), ao _ (by omega)]
      exact hk o h1 h2
  have hto : rGto g l = -1 ∨ (0 ≤ rGto g l ∧ rGto g l < g 3 ∧ rGto g l ≠ l) := by
    have h9 := rOthS_rng (g := rG2 g (10 + 265 * l)) (l := l) (rG2 g (10 + 265 * l) 3).toNat 0 (-1) (by omega) (Or.inl rfl)
    have e3 := ao 3 (by omega)
    have h9 : rGto g l = -1 ∨ (0 ≤ rGto g l ∧ rGto g l < 0 + ((rG2 g (10 + 265 * l) 3).toNat : Int) ∧ rGto g l ≠ l) := h9
    rw [e3] at h9
    omega
  have hwr : 0 ≤ rGw g l ∧ rGw g l < g 3 := by
    unfold rGw
    split <;> omega
  have hq2 := hk2 (rGw g l) hwr.1 (by rw [ao 3 (by omega)]; exact hwr.2)
  have p8 : rAnew (rApp (rG2 g (10 + 265 * l)) (10 + 265 * rGw g l) (rGov f g (10 + 265 * l)) (rGk g l)) (10 + 265 * l) 8 = g 8 := by
    rw [rAnew_out (by omega), rApp_out (by omega) (by omega), ao 8 (by omega)]
  rw [ze_M_goesOver, zb_M_goesOver_0, r_of (by omega) (by omega) (by omega) (by omega), zK_i, zb_M_goesOver_8, r_aheadOf hl hl4 k0 k8, zK_i, zb_M_goesOver_9, r_leaves hl hl4 hr.1 hr.2 k8, zK_v, zb_M_goesOver_10]
  have h1 := l_go1 (q := q) (d := d + 1) (f := f) (t := t) (g := rG1 g (10 + 265 * l)) (l := l) hl hl4 (by omega) (R := f 1473) (rG1 g (10 + 265 * l) (10 + 265 * l + 7)).toNat 0 (by omega) (by omega)
  rw [rOv1_0, zrow_id] at h1
  refine h1.trans ?_
  have h2 := l_go2 (q := q) (d := d + 1) (f := f) (t := t) (g := rG1 g (10 + 265 * l)) (l := l) (K := rG1 g (10 + 265 * l) (10 + 265 * l + 7)) hl hl4 (by omega) (by omega) (by omega) (R := rOv1 (rG1 g (10 + 265 * l)) (10 + 265 * l) (rG1 g (10 + 265 * l) (10 + 265 * l + 7)) (f 1473)) (rG1 g (10 + 265 * l) (10 + 265 * l + 6)).toNat 0 (by omega) (by omega)
  rw [rOv2_0, Int.add_zero] at h2
  refine h2.trans ?_
  rw [zb_M_goesOver_82, r_lays (by omega) (by omega) (by omega) (by omega), zK_v, zb_M_goesOver_87, r_lays (by omega) (by omega) (by omega) (by omega), zK_v, zb_M_goesOver_92]
  show zK _ _ _ _ _ _ (zM (true, q) _ 165 _ (zrow (zrow f 1473 (rGov f g (10 + 265 * l))) 1465 (rG2 g (10 + 265 * l)), t)) = _
  rw [r_otherIn (by rw [ao 3 (by omega)]; omega) (by rw [ao 3 (by omega)]; omega) hk2, zK_i, zb_M_goesOver_95, show rOth (rG2 g (10 + 265 * l)) l = rGto g l from rfl]
  have h3 := l_go3 (q := q) (d := d) (f := zrow f 1473 (rGov f g (10 + 265 * l))) (t := t) (g := rG2 g (10 + 265 * l)) (l := l) (n := rG1 g (10 + 265 * l) (10 + 265 * l + 7) + rG1 g (10 + 265 * l) (10 + 265 * l + 6)) (x := rGto g l) (w := rGw g l) hwr.1 (by omega) hq2.2.2.1 hq2.2.2.2 (by omega) (by omega) (rGk g l).toNat 0 (by omega) (by
    have : 0 ≤ rGk g l := by
      unfold rGk rWent
      split <;> omega
    have h9 : ((rGk g l).toNat : Int) = rGk g l := by omega
    rw [h9, Int.zero_add]
    rfl)
  rw [rApp_0, zrow_r] at h3
  have h3 : zD (true, q) (d + 3) zc_M_goesOver (zat zc_M_goesOver 107) [(20, 1464, 0), (0, l, 0), (0, rG1 g (10 + 265 * l) (10 + 265 * l + 7) + rG1 g (10 + 265 * l) (10 + 265 * l + 6), 0), (0, rGto g l, 0), (0, rGw g l, 0), (0, 0, 0), (0, 0, 0)] [] (zrow (zrow f 1473 (rGov f g (10 + 265 * l))) 1465 (rG2 g (10 + 265 * l)), t) = some ((0, rGv g l, 0), (zrow (zrow f 1473 (rGov f g (10 + 265 * l))) 1465 (rGo f g l), t)) := by
    refine h3.trans ?_
    show zD (true, q) (d + 3) zc_M_goesOver (zat zc_M_goesOver 136) [(20, 1464, 0), (0, l, 0), (0, rG1 g (10 + 265 * l) (10 + 265 * l + 7) + rG1 g (10 + 265 * l) (10 + 265 * l + 6), 0), (0, rGto g l, 0), (0, rGw g l, 0), (0, rGk g l, 0), (0, rGk g l, 0)] [] (zrow (zrow f 1473 (rGov f g (10 + 265 * l))) 1465 (rApp (rG2 g (10 + 265 * l)) (10 + 265 * rGw g l) (rGov f g (10 + 265 * l)) (rGk g l)), t) = _
    rw [zb_M_goesOver_136, r_beginsAnew hl hl4, zK_v, zb_M_goesOver_139]
    unfold rGo
    by_cases ht : rGto g l = -1
    · have ev : rGv g l = 0 := if_pos ht
      rw [if_neg (fun z => z ht), zb_M_goesOver_145, r_logs (by rw [p8]; exact g0) (by rw [p8]; exact g60), zK_v, zb_M_goesOver_149, if_neg (fun z => z ht), zb_M_goesOver_152, ev]
    · have ev : rGv g l = rGk g l := if_neg ht
      rw [if_pos ht, zb_M_goesOver_147, r_logs (by rw [p8]; exact g0) (by rw [p8]; exact g60), zK_v, zb_M_goesOver_149, if_pos ht, zb_M_goesOver_154, ev]
  by_cases ht : rGto g l = -1
  · have ew : rGw g l = l := if_pos ht
    rw [ew] at h3
    rw [if_neg (fun z => z ht), zb_M_goesOver_99]
    exact h3
  · have ew : rGw g l = rGto g l := if_neg ht
    rw [ew] at h3
    rw [if_pos ht, zb_M_goesOver_101]
    exact h3
