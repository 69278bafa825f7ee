/-! ## a line: which comes next, the least window, its part -/
def gCo (g : Int → Int) (B : Int) : Int := if g (B + 0) = 2 then (if rNext g B = 0 then -1 else if rNext g B = 1 then g (B + (17 + 4 * g (B + 8) + 0)) else if rNext g B = 2 then g (B + (73 + 2 * 0 + 0)) else g (B + (17 + 4 * 0 + 0))) else -1
theorem r_comes {q : Int × (Int → Int)} {d : Nat} {f : Int → Int → Int} {t : (Int → Int) × Nat × Nat × Nat × (Int → Int → Bool)} {g : Int → Int} {l N : Int} (hl : 0 ≤ l) (hl4 : l < 4) (hI : zIL N g (10 + 265 * l)) : zM (true, q) (d + 5) 147 [(20, 1464, 0), (0, l, 0)] (zrow f 1465 g, t) = some ((0, gCo g (10 + 265 * l), 0), (zrow f 1465 g, t)) := by
  obtain ⟨hr, hL, hh, _, _⟩ := hI
  have h7 := hr.2.2.2.2.2.2.2.1
  have h6 := hr.2.2.2.2.2.2.1
  have h8 := hr.2.2.2.2.2.2.2.2.1
  unfold gCo
  rw [ze_M_comesNext, zb_M_comesNext_0, r_of hl hl4 (by decide) (by decide), zK_i, zb_M_comesNext_4]
  by_cases c : g (10 + 265 * l + 0) = 2
  · rw [if_pos c, if_pos c, zb_M_comesNext_8, r_nextOf hl hl4 h7.1 h7.2 (fun k k0 k1 => by have := hL.1 k k0 k1; omega) (fun z => by have := hL.2 0 (by decide) z; omega), zK_i, zb_M_comesNext_11]
    generalize rNext g (10 + 265 * l) = r
    by_cases c0 : r = 0
    · rw [if_neg (fun z => z c0), if_pos c0, zb_M_comesNext_14]
    · rw [if_pos c0, if_neg c0, zb_M_comesNext_16]
      by_cases c1 : r = 1
      · rw [if_neg (fun z => z c1), if_pos c1, zb_M_comesNext_19, r_of hl hl4 (by decide) (by decide), zK_i, zb_M_comesNext_25, r_held hl hl4 (by omega) (by omega) (by decide) (by decide), zK_i, zb_M_comesNext_27]
      · rw [if_pos c1, if_neg c1, zb_M_comesNext_28]
        by_cases c2 : r = 2
        · rw [if_neg (fun z => z c2), if_pos c2, zb_M_comesNext_31, r_queued hl hl4 (by decide) (by decide) (by decide) (by decide), zK_i, zb_M_comesNext_36]
        · rw [if_pos c2, if_neg c2, zb_M_comesNext_37, r_held hl hl4 (by decide) (by decide) (by decide) (by decide), zK_i, zb_M_comesNext_42]
  · rw [if_neg c, if_neg c, zb_M_comesNext_6]
theorem c_comes {q : Int × (Int → Int)} {d : Nat} {σ : zS} {n b N : Int} {g : Int → Int} {B : Int} (hI : zIL N g B) (h : zLC n σ.1 b g B) : zM (true, q) (d + 3) 104 [(13, b, 0)] σ = some ((0, gCo g B, 0), σ) := by
  obtain ⟨hr, hL, hh, _, _⟩ := hI
  have h7 := hr.2.2.2.2.2.2.2.1
  have h6 := hr.2.2.2.2.2.2.1
  have h8 := hr.2.2.2.2.2.2.2.2.1
  have h9 := hr.2.2.2.2.2.2.2.2.2.1
  have h3 := hr.2.2.2.1
  have e4 := zc_f4 h
  have e10 := zc_f10 h
  have e11 := zc_f11 h
  have e6 := h.2.1
  have e7 := h.2.2.1
  have hk0 : 0 < g (B + 7) → σ.1 (b + 7) 0 = g (B + (17 + 4 * 0 + 0)) := fun z => h.2.2.2.1 0 0 (by decide) z (by decide) (by decide)
  have hkh : 0 < g (B + 7) → σ.1 (b + 7) (g (B + 8)) = g (B + (17 + 4 * g (B + 8) + 0)) := fun z => h.2.2.2.1 (g (B + 8)) 0 h8.1 (by rcases hh.1 with a | a <;> omega) (by decide) (by decide)
  have hq0 : 0 < g (B + 6) → σ.1 (b + 2) 0 = g (B + (73 + 2 * 0 + 0)) := fun z => h.2.2.2.2.1 0 0 (by decide) z (by decide) (by decide)
  have hb1 : (b + 6) + 1 = b + 7 := by omega
  have hb2 : (b + 1) + 1 = b + 2 := by omega
  rw [ze_Lin_comes, zb_Lin_comes_0]
  by_cases c : g (B + 0) = 2
  · rw [if_pos (by omega), zb_Lin_comes_6]
    by_cases cf : g (B + 9) = 1
    · have en : rNext g B = 1 := if_pos cf
      have hv : gCo g B = g (B + (17 + 4 * g (B + 8) + 0)) := by
        unfold gCo
        rw [if_pos c, en]
        rfl
      have p7 : 0 < g (B + 7) := by
        rcases Int.lt_or_le 0 (g (B + 7)) with a | a
        · exact a
        · have := hh.2.1 (by omega)
          omega
      rw [hv, if_pos (by omega), zb_Lin_comes_18, if_pos (by omega), zb_Lin_comes_24, if_pos (by omega), zb_Lin_comes_33, if_pos rfl, zb_Lin_comes_42, s_at (by omega) (by omega), zK_i, zb_Lin_comes_45, hb1, e10, hkh p7]
    · rw [if_neg (by omega), zb_Lin_comes_9, c_fitsR hr hL h, zK_i, zb_Lin_comes_11]
      by_cases c6 : 0 < g (B + 6)
      · by_cases ct : rFits g B = true
        · have hv : gCo g B = g (B + (73 + 2 * 0 + 0)) := by
            unfold gCo rNext
            rw [if_pos c, if_neg cf, if_pos c6, if_pos ct]
            rfl
          rw [hv, if_pos (show 0 < g (B + 6) ∧ rFits g B = true from ⟨c6, ct⟩), if_neg (show ¬(1 : Int) = 0 by decide), zb_Lin_comes_12, s_at (by omega) (by omega), zK_i, zb_Lin_comes_17, hb2, hq0 c6]
        · have p7 : 0 < g (B + 7) := by
            rcases Int.lt_or_le 0 (g (B + 7)) with a | a
            · exact a
            · exfalso
              refine ct ?_
              have z7 : g (B + 7) = 0 := by omega
              have q9 := hL.2 0 (by decide) c6
              have h4 := hr.2.2.2.2.1
              unfold rFits
              rw [z7]
              show decide (0 < g (B + 3) ∧ 0 + g (B + (73 + 2 * 0 + 1)) ≤ g (B + 4)) = true
              exact decide_eq_true ⟨by omega, by omega⟩
          have hv : gCo g B = g (B + (17 + 4 * 0 + 0)) := by
            unfold gCo rNext
            rw [if_pos c, if_neg cf, if_pos c6, if_neg ct]
            rfl
          rw [hv, if_neg (show ¬(0 < g (B + 6) ∧ rFits g B = true) from fun z => ct z.2), if_pos (show (0 : Int) = 0 from rfl), zb_Lin_comes_18, if_pos (by omega), zb_Lin_comes_24, if_neg (by omega), zb_Lin_comes_27, if_neg (by omega), zb_Lin_comes_31, if_neg (by decide), zb_Lin_comes_40, s_at (by omega) (by omega), zK_i, zb_Lin_comes_45, hb1, hk0 p7]
      · by_cases c7 : 0 < g (B + 7)
        · have hv : gCo g B = g (B + (17 + 4 * g (B + 8) + 0)) := by
            unfold gCo rNext
            rw [if_pos c, if_neg cf, if_neg c6, if_pos c7]
            rfl
          rw [hv, if_neg (show ¬(0 < g (B + 6) ∧ rFits g B = true) from fun z => c6 z.1), if_pos (show (0 : Int) = 0 from rfl), zb_Lin_comes_18, if_pos (by omega), zb_Lin_comes_24, if_neg (by omega), zb_Lin_comes_27, if_pos (by omega), zb_Lin_comes_33, if_pos rfl, zb_Lin_comes_42, s_at (by omega) (by omega), zK_i, zb_Lin_comes_45, hb1, e10, hkh c7]
        · have hv : gCo g B = -1 := by
            unfold gCo rNext
            rw [if_pos c, if_neg cf, if_neg c6, if_neg c7]
            rfl
          rw [hv, if_neg (show ¬(0 < g (B + 6) ∧ rFits g B = true) from fun z => c6 z.1), if_pos (show (0 : Int) = 0 from rfl), zb_Lin_comes_18, if_neg (by omega), zb_Lin_comes_22]
  · have hv : gCo g B = -1 := if_neg c
    rw [hv, if_neg (by omega), zb_Lin_comes_4]
def gWi (T : Int → Int) : Nat → Int → Int → Int → Int
  | 0, _, w, _ => w
  | k + 1, u, w, m => if m < T u then gWi T k (u + 1) u (T u) else gWi T k (u + 1) w m
theorem gWi_sub {T : Int → Int} {c : Int} : ∀ (k : Nat) (u w m : Int), gWi (fun u => T u - c) k u w (m - c) = gWi T k u w m := by
  intro k
  induction k with
  | zero => intro u w m; rfl
  | succ k ih =>
    intro u w m
    show (if m - c < T u - c then gWi (fun u => T u - c) k (u + 1) u (T u - c) else gWi (fun u => T u - c) k (u + 1) w (m - c)) = if m < T u then gWi T k (u + 1) u (T u) else gWi T k (u + 1) w m
    by_cases h : m < T u
    · rw [if_pos h, if_pos (by omega), ih]
    · rw [if_neg h, if_neg (by omega), ih]
theorem x_window {q : Int × (Int → Int)} {N : Int} {f : Int → Int → Int} {t : (Int → Int) × Nat × Nat × Nat × (Int → Int → Bool)} {S : Int → (Int → Int) → Int} {l : Int} (hR : ZR N f f) (hN : N ≤ 1000000) (hl : 0 ≤ l) (hlm : l < f 1465 3) (hS : zSC S) (hAC : zAskC q S 2 f) : ∃ f2, zM (true, q) 1897 136 [(19, 0, 0), (0, l, 0)] (f, t) = some ((0, gWi (fun u => kGoes (zLwA S) 0 60 (zup1 (f 1465) (10 + 265 * l + 3) u) 5) 8 1 1 (-1), 0), (f2, t)) ∧ zTry f f2 := by
  have h4 := ZR_4 hR
  have N0 := hR.1
  have hI := hR.2.1.2.2.1
  have hIL := (ZR_line hR hl hlm).2
  generalize hT : (fun u => kGoes (zLwA S) 0 60 (zup1 (f 1465) (10 + 265 * l + 3) u) 5) = T
  have hTs : ∀ s, kGoes (zLwA S) 0 60 (zup1 (f 1465) (10 + 265 * l + 3) s) 5 = T s := fun s => by rw [← hT]
  have loop : ∀ (k : Nat) (u w m : Int) (f1 : Int → Int → Int), 1 ≤ u → u + k = 9 → zTry f f1 → ∃ f2, zD (true, q) 1897 zc_X_windowOf (zat zc_X_windowOf 6) [(19, 0, 0), (0, l, 0), (0, w, 0), (0, m, 0), (0, u, 0)] [] (f1, t) = some ((0, gWi T k u w m, 0), (f2, t)) ∧ zTry f f2 := by
    intro k
    induction k with
    | zero =>
      intro u w m f1 u0 hk ht
      exact ⟨f1, by rw [zb_X_windowOf_6, if_pos (by omega), zb_X_windowOf_40]; rfl, ht⟩
    | succ k ih =>
      intro u w m f1 u0 hk ht
      obtain ⟨f2, r2, g2, l2, t2⟩ := zTry_copy (q := q) (d := 1893) (t := t) hR ht
      obtain ⟨g3, l3, i3⟩ := zW_up (W := 118) (c := 7) (r := 3) (v := u) hl hlm hI (by decide) (by decide) (by decide) (by decide) (zIL_f3 (by omega) hIL) (by decide) g2 l2
      have t3 : zTry f (zup f2 (118 + 23 + 18 * l) 7 u) := zTry_trans t2 (fun o k a _ => zup_na (by omega))
      obtain ⟨f4, r4, g4, l4, t4⟩ := zTry_pass (q := q) (d := 1890) (t := t) (dr := 0) hS hAC t3 (show (0 : Int) ≤ 60 by decide) (show (60 : Int) ≤ 60 by decide) i3 g3 l3 N0 (by omega)
      have e4 : f4 118 7 = T u := g4.2.2.2.1.trans (hTs u)
      have un : gWi T (k + 1) u w m = if m < T u then gWi T k (u + 1) u (T u) else gWi T k (u + 1) w m := rfl
      rw [zb_X_windowOf_6, if_neg (by omega), zb_X_windowOf_9]
      show ∃ f2, zK _ _ _ _ _ _ (zM (true, q) 1896 43 [(18, 118, 0), (18, 23, 0)] (f1, t)) = _ ∧ _
      rw [r2, zK_v, zb_X_windowOf_14]
      show ∃ f2, zK _ _ _ _ _ _ (zM (true, q) 1896 37 [(18, 118, 0), (0, l, 0)] _) = _ ∧ _
      rw [s_lineAt hl (by omega), zK_13, zb_X_windowOf_18]
      show ∃ f2, zK _ _ _ _ _ _ (zM (true, q) 1896 135 [(18, 118, 0), (0, 60, 0), (12, 2, 0), (0, 0, 0)] (zup _ (118 + 23 + 18 * l) 7 u, t)) = _ ∧ _
      rw [r4, zK_v, zb_X_windowOf_27]
      show ∃ f2, (if f4 118 7 ≤ m then _ else _) = _ ∧ _
      rw [e4, un]
      by_cases c : m < T u
      · rw [if_neg (by omega), if_pos c, zb_X_windowOf_32, zw_id (by omega) (by omega)]
        show ∃ f2, zD _ _ _ _ [(19, 0, 0), (0, l, 0), (0, u, 0), (0, f4 118 7, 0), (0, u + 1, 0)] _ _ = _ ∧ _
        rw [e4]
        exact ih (u + 1) u (T u) f4 (by omega) (by omega) t4
      · rw [if_pos (by omega), if_neg c, zb_X_windowOf_38, zw_id (by omega) (by omega)]
        exact ih (u + 1) w m f4 (by omega) (by omega) t4
  obtain ⟨fT, rT, tT⟩ := loop 8 1 1 (-1) f (by decide) rfl zTry_refl
  exact ⟨fT, by rw [ze_X_windowOf, zb_X_windowOf_0]; exact rT, tT⟩
theorem zFr_mix {h h0 h2 h3 h4 : Int → Int → Int} (z0 : ∀ o k, o ≠ 1465 → o ≠ 1467 → h0 o k = h o k) (z2 : zFr h0 h2) (a : ∀ o k, o ≠ 1465 → o ≠ 1467 → h3 o k = h2 o k) (b : zFr h3 h4) : ∃ h1, (∀ o k, o ≠ 1465 → o ≠ 1467 → h1 o k = h o k) ∧ zFr h1 h4 := by
  refine ⟨fun o k => if o = 1465 ∨ o = 1467 then h4 o k else h o k, fun o k a1 a2 => if_neg (by omega), fun o k n1 n3 n4 n5 n6 n7 => ?_, fun z => b.2 (zB3_fr (fun k _ _ => a _ _ (by decide) (by decide)) (z2.2 (zB3_fr (fun k _ _ => ?_) z)))⟩
  · by_cases c : o = 1465 ∨ o = 1467
    · exact (if_pos c).symm
    · have e : (if o = 1465 ∨ o = 1467 then h4 o k else h o k) = h o k := if_neg c
      refine Eq.trans ?_ e.symm
      rw [b.1 o k n1 n3 n4 n5 n6 n7, a o k n1 (by omega), z2.1 o k n1 n3 n4 n5 n6 n7, z0 o k n1 (by omega)]
  · rw [z0 _ _ (by decide) (by decide)]
    exact (if_neg (by decide)).symm
theorem r_window {q : Int × (Int → Int)} {N : Int} {h : Int → Int → Int} {t : (Int → Int) × Nat × Nat × Nat × (Int → Int → Bool)} {A : (Int → Int) → Int × Int} {w g : Int → Int} {l : Int} (N0 : 0 ≤ N) (hN : N ≤ 1000000) (hI : zWI N g) (hl : 0 ≤ l) (hlm : l < g 3) (hIs : ∀ s, 1 ≤ s → s ≤ 8 → zWI N (zup1 g (10 + 265 * l + 3) s)) (hAs : zAsk q A w) (hw : zLawW w g) (hB : zAB A) : ∃ h1 h2, zM (true, q) 1898 170 [(20, 1464, 0), (0, l, 0)] (zrow h 1465 g, t) = some ((0, gWi (fun u => kGoes A 0 60 (zup1 g (10 + 265 * l + 3) u) 5) 8 1 1 (-1), 0), (zrow h2 1465 g, t)) ∧ (∀ o k, o ≠ 1465 → o ≠ 1467 → h1 o k = h o k) ∧ zFr h1 h2 := by
  have m4 := hI.2.1
  generalize hT : (fun u => kGoes A 0 60 (zup1 g (10 + 265 * l + 3) u) 5) = T
  have hTs : ∀ s, kGoes A 0 60 (zup1 g (10 + 265 * l + 3) s) 5 = T s := fun s => by rw [← hT]
  have T1 : 0 ≤ g 5 ∧ g 5 ≤ T 1 := by
    have h5 := kGoes_5 (dr := 0) hB 60 N _ (hIs 1 (by decide) (by decide)) N0 (by omega)
    rw [hTs, zup1_ne (by omega)] at h5
    exact ⟨hI.2.2.1.2.1.1, h5⟩
  have rloop : ∀ (k : Nat) (u w1 m : Int) (v5 : zV) (h : Int → Int → Int), 1 ≤ u → u + k = 9 → ∃ h1 h2, zD (true, q) 1898 zc_M_windowOf (zat zc_M_windowOf 6) [(20, 1464, 0), (0, l, 0), (0, m, 0), (0, w1, 0), (0, u, 0), v5] [] (zrow h 1465 g, t) = some ((0, gWi (fun u => T u - g 5) k u w1 m, 0), (zrow h2 1465 g, t)) ∧ (∀ o k, o ≠ 1465 → o ≠ 1467 → h1 o k = h o k) ∧ zFr h1 h2 := by
    intro k
    induction k with
    | zero =>
      intro u w1 m v5 h s0 hk
      exact ⟨h, h, by rw [zb_M_windowOf_6, if_pos (by omega), zb_M_windowOf_33]; rfl, fun _ _ _ _ => rfl, zFr_refl⟩
    | succ k ih =>
      intro u w1 m v5 h s0 hk
      obtain ⟨h0, x0, y0, z0⟩ := r_out (q := q) (d := 1897) (f := h) (t := t) (g := g)
      have hws : zLawW w (zup1 g (10 + 265 * l + 3) u) := fun j hj => (zup1_ne (by omega)).trans (hw j hj)
      obtain ⟨h2, x2, y2, z2, w2, e2⟩ := r_tries (q := q) (d := 1832) (f := h0) (t := t) (dr := 0) hAs hB hws (hIs u s0 (by omega)) N0 (by omega) (show (0 : Int) ≤ 60 by decide) (show (60 : Int) ≤ 60 by decide) y0
      have e5 : zup1 g (10 + 265 * l + 3) u 5 = g 5 := zup1_ne (by omega)
      have k60 : (60 : Int).toNat = 60 := rfl
      rw [k60, hTs, e5] at x2
      rw [k60] at e2
      have x3 := r_in (q := q) (d := 1897) (t := t) y2 (K := kGoes A 0 60 (zup1 g (10 + 265 * l + 3) u)) (fun j hj => (e2 j (by omega)).trans (zup1_ne (by omega)))
      have un : gWi (fun u => T u - g 5) (k + 1) u w1 m = if m < T u - g 5 then gWi (fun u => T u - g 5) k (u + 1) u (T u - g 5) else gWi (fun u => T u - g 5) k (u + 1) w1 m := rfl
      have run : zD (true, q) 1898 zc_M_windowOf (zat zc_M_windowOf 6) [(20, 1464, 0), (0, l, 0), (0, m, 0), (0, w1, 0), (0, u, 0), v5] [] (zrow h 1465 g, t) = zD (true, q) 1898 zc_M_windowOf (zat zc_M_windowOf 23) [(20, 1464, 0), (0, l, 0), (0, m, 0), (0, w1, 0), (0, u, 0), (0, T u - g 5, 0)] [] (zrow h2 1465 g, t) := by
        rw [zb_M_windowOf_6, if_neg (by omega), zb_M_windowOf_9, x0, zK_v, zb_M_windowOf_11, r_lays hl (by omega) (by decide) (by decide), zK_v, zb_M_windowOf_16, x2, zK_i, zb_M_windowOf_20, x3, zK_v]
      rw [run, zb_M_windowOf_23, un]
      by_cases c : m < T u - g 5
      · obtain ⟨h3, h4, r4, a4, b4⟩ := ih (u + 1) u (T u - g 5) (0, T u - g 5, 0) h2 (by omega) (by omega)
        obtain ⟨h5, a5, b5⟩ := zFr_mix z0 z2 a4 b4
        refine ⟨h5, h4, ?_, a5, b5⟩
        rw [if_pos c, if_pos c, zb_M_windowOf_27, zw_id (by omega) (by omega)]
        exact r4
      · obtain ⟨h3, h4, r4, a4, b4⟩ := ih (u + 1) w1 m (0, T u - g 5, 0) h2 (by omega) (by omega)
        obtain ⟨h5, a5, b5⟩ := zFr_mix z0 z2 a4 b4
        refine ⟨h5, h4, ?_, a5, b5⟩
        rw [if_neg c, if_neg c, zb_M_windowOf_26, zw_id (by omega) (by omega)]
        exact r4
  obtain ⟨h3, h4, r4, a4, b4⟩ := rloop 8 1 0 (-1) (2, 0, 0) h (by decide) rfl
  have e1 : gWi (fun u => T u - g 5) 8 1 0 (-1) = gWi T 7 2 1 (T 1) := by
    show (if (-1 : Int) < T 1 - g 5 then gWi (fun u => T u - g 5) 7 2 1 (T 1 - g 5) else _) = _
    rw [if_pos (by omega), gWi_sub]
  have e2 : gWi T 8 1 1 (-1) = gWi T 7 2 1 (T 1) := by
    show (if (-1 : Int) < T 1 then gWi T 7 2 1 (T 1) else _) = _
    rw [if_pos (by omega)]
  rw [e2, ← e1]
  exact ⟨h3, h4, by rw [ze_M_windowOf, zb_M_windowOf_0]; exact r4, a4, b4⟩
def gAll (g : Int → Int) : Int := zsum (fun i => gLoad g (10 + 265 * i)) (g 3).toNat 0
theorem r_all {q : Int × (Int → Int)} {d : Nat} {f : Int → Int → Int} {t : (Int → Int) × Nat × Nat × Nat × (Int → Int → Bool)} {g : Int → Int} (m0 : 0 ≤ g 3) (m4 : g 3 ≤ 4) (hI : ∀ i, 0 ≤ i → i < g 3 → rLR g (10 + 265 * i) ∧ rLL g (10 + 265 * i)) : zM (true, q) (d + 4) 171 [(20, 1464, 0)] (zrow f 1465 g, t) = some ((0, gAll g, 0), (zrow f 1465 g, t)) := by
  have loop : ∀ (k : Nat) (i acc : Int), 0 ≤ i → i + k = g 3 → 0 ≤ acc → acc ≤ 936 * i → zD (true, q) (d + 4) zc_M_loadOfAll (zat zc_M_loadOfAll 4) [(20, 1464, 0), (0, acc, 0), (0, i, 0)] [] (zrow f 1465 g, t) = some ((0, acc + zsum (fun i => gLoad g (10 + 265 * i)) k i, 0), (zrow f 1465 g, t)) := by
    intro k
    induction k with
    | zero =>
      intro i acc i0 hi a0 a1
      rw [zb_M_loadOfAll_4]
      simp (disch := omega) only [Int.reduceAdd, zrow_r]
      rw [zG2 (by decide) (by decide), zb_M_loadOfAll_9, if_pos (by omega), zb_M_loadOfAll_18]
      show _ = some ((0, acc + 0, 0), _)
      rw [Int.add_zero]
    | succ k ih =>
      intro i acc i0 hi a0 a1
      have hr := hI i i0 (by omega)
      have hg := gLoad_rng hr.1 hr.2
      rw [zb_M_loadOfAll_4]
      simp (disch := omega) only [Int.reduceAdd, zrow_r]
      rw [zG2 (by decide) (by decide), zb_M_loadOfAll_9, if_neg (by omega), zb_M_loadOfAll_10, r_loadR i0 (by omega) hr.1 hr.2, zK_i, zb_M_loadOfAll_14, zw_id (z := acc + gLoad g (10 + 265 * i)) (by omega) (by omega), zw_id (z := i + 1) (by omega) (by omega), ih (i + 1) _ (by omega) (by omega) (by omega) (by omega)]
      show _ = some ((0, acc + (gLoad g (10 + 265 * i) + zsum (fun i => gLoad g (10 + 265 * i)) k (i + 1)), 0), _)
      rw [Int.add_assoc]
  rw [ze_M_loadOfAll, zb_M_loadOfAll_0, loop (g 3).toNat 0 0 (Int.le_refl 0) (by omega) (Int.le_refl 0) (by omega), Int.zero_add]
  rfl
theorem gAll_rng {g : Int → Int} (m0 : 0 ≤ g 3) (m4 : g 3 ≤ 4) (hI : ∀ i, 0 ≤ i → i < g 3 → rLR g (10 + 265 * i) ∧ rLL g (10 + 265 * i)) : 0 ≤ gAll g ∧ gAll g ≤ 3744 := by
  have s := zsum_rng (g := fun i => gLoad g (10 + 265 * i)) (lo := 0) (hi := 936) (g 3).toNat 0 (fun k k0 k1 => gLoad_rng (hI k k0 (by omega)).1 (hI k k0 (by omega)).2)
  unfold gAll
  omega
theorem x_partR {q : Int × (Int → Int)} {N : Int} {f : Int → Int → Int} {t : (Int → Int) × Nat × Nat × Nat × (Int → Int → Bool)} {l : Int} (hR : ZR N f f) (hl : 0 ≤ l) (hlm : l < f 1465 3) : zM (true, q) 1897 137 [(19, 0, 0), (13, 46 + 18 * l, 0)] (f, t) = some ((0, if gAll (f 1465) = 0 then 0 else zdiv (100 * gLoad (f 1465) (10 + 265 * l)) (gAll (f 1465)), 0), (f, t)) := by
  have h4 := ZR_4 hR
  have hI : ∀ i, 0 ≤ i → i < f 1465 3 → rLR (f 1465) (10 + 265 * i) ∧ rLL (f 1465) (10 + 265 * i) := fun i i0 i1 => ⟨(ZR_line hR i0 i1).2.1, (ZR_line hR i0 i1).2.2.1⟩
  have loop : ∀ (k : Nat) (i acc : Int), 0 ≤ i → i + k = f 1465 3 → 0 ≤ acc → acc ≤ 936 * i → ∃ v3, zD (true, q) 1897 zc_X_partOf (zat zc_X_partOf 4) [(19, 0, 0), (13, 46 + 18 * l, 0), (0, acc, 0), (0, i, 0)] [] (f, t) = zD (true, q) 1897 zc_X_partOf (zat zc_X_partOf 19) [(19, 0, 0), (13, 46 + 18 * l, 0), (0, acc + zsum (fun i => gLoad (f 1465) (10 + 265 * i)) k i, 0), (0, v3, 0)] [] (f, t) := by
    intro k
    induction k with
    | zero =>
      intro i acc i0 hi a0 a1
      refine ⟨i, ?_⟩
      rw [zb_X_partOf_4]
      show (if f 23 4 ≤ i then _ else _) = _
      rw [if_pos (by omega)]
      show _ = zD _ _ _ _ [_, _, (0, acc + 0, 0), _] _ _
      rw [Int.add_zero]
    | succ k ih =>
      intro i acc i0 hi a0 a1
      have hr := hI i i0 (by omega)
      have hg := gLoad_rng hr.1 hr.2
      have hC := (ZR_line hR i0 (by omega)).1
      obtain ⟨v3, r3⟩ := ih (i + 1) (acc + gLoad (f 1465) (10 + 265 * i)) (by omega) (by omega) (by omega) (by omega)
      refine ⟨v3, ?_⟩
      rw [zb_X_partOf_4]
      show (if f 23 4 ≤ i then _ else _) = _
      rw [if_neg (by omega), zb_X_partOf_9]
      show zK _ _ _ _ _ _ (zM (true, q) 1896 37 [(18, 23, 0), (0, i, 0)] (f, t)) = _
      rw [s_lineAt i0 (by omega), zK_13, zb_X_partOf_14, show (23 : Int) + 23 + 18 * i = 46 + 18 * i by omega, c_loadR (σ := (f, t)) hr.1 hr.2 hC, zK_i, zb_X_partOf_15, zw_id (z := acc + gLoad (f 1465) (10 + 265 * i)) (by omega) (by omega), zw_id (z := i + 1) (by omega) (by omega), r3]
      show zD _ _ _ _ [_, _, _, _] _ _ = zD _ _ _ _ [_, _, (0, acc + (gLoad (f 1465) (10 + 265 * i) + zsum (fun i => gLoad (f 1465) (10 + 265 * i)) k (i + 1)), 0), _] _ _
      rw [Int.add_assoc]
  obtain ⟨v3, r3⟩ := loop (f 1465 3).toNat 0 0 (Int.le_refl 0) (by omega) (Int.le_refl 0) (by omega)
  have hr := hI l hl hlm
  have hg := gLoad_rng hr.1 hr.2
  have hC := (ZR_line hR hl hlm).1
  have ha := gAll_rng h4.2.1 h4.2.2 hI
  rw [Int.zero_add] at r3
  rw [ze_X_partOf, zb_X_partOf_0, r3]
  show zD _ _ _ _ [_, _, (0, gAll (f 1465), 0), _] _ _ = _
  rw [zb_X_partOf_19]
  by_cases c : gAll (f 1465) = 0
  · rw [if_pos (by omega), if_pos c, zb_X_partOf_28]
  · rw [if_neg (by omega), if_neg c, zb_X_partOf_21, c_loadR (σ := (f, t)) hr.1 hr.2 hC, zK_i, zb_X_partOf_24, zG1 c, zw_id (z := 100 * gLoad (f 1465) (10 + 265 * l)) (by omega) (by omega), zb_X_partOf_27]
theorem r_line_w {q : Int × (Int → Int)} {d : Nat} {f : Int → Int → Int} {t : (Int → Int) × Nat × Nat × Nat × (Int → Int → Bool)} {g : Int → Int} {l w : Int} (hl : 0 ≤ l) (hlm : l < g 3) (hm : g 3 ≤ 4) (hw0 : 0 ≤ w) (hw : w ≤ 20) : zM (true, q) (d + 2) 172 [(20, 1464, 0), (0, l, 0), (0, w, 0)] (zrow f 1465 g, t) = zD (true, q) (d + 2) zc_M_line (zat zc_M_line 21) [(20, 1464, 0), (0, l, 0), (0, w, 0)] [] (zrow (zup f 1464 0 0) 1465 g, t) := by
  rw [ze_M_line, zb_M_line_0, r_isLineT hl hlm hm, zK_i, zb_M_line_4, if_pos (by omega), zb_M_line_7, r_isInT hw0 hw, zK_i, zb_M_line_11, if_pos (by omega), zb_M_line_14]
  simp (disch := omega) only [Int.reduceAdd, zrow_r, zrow_in, zrow_up, zrow_ne, zupE]
  rw [if_pos (by omega)]
theorem x_line_0 {q : Int × (Int → Int)} {N : Int} {f : Int → Int → Int} {t : (Int → Int) × Nat × Nat × Nat × (Int → Int → Bool)} {l : Int} (hR : ZR N f f) (h0 : 0 ≤ l) (h1 : l < f 1465 3) : zM (true, q) 1898 138 [(19, 0, 0), (0, l, 0), (0, 0, 0)] (f, t) = some ((0, f 1465 (10 + 265 * l + 0), 0), (f, t)) := by
  have hC := (ZR_line hR h0 h1).1
  rw [ze_X_line, zb_X_line_0, zLT hR h0 h1, zK_13, zb_X_line_3]
  show zD (true, q) 1898 zc_X_line (zat zc_X_line 6) _ [] (f, t) = _
  rw [zb_X_line_6]
  show some ((0, f (46 + 18 * l) 4, 0), (f, t)) = _
  rw [show f (46 + 18 * l) 4 = f 1465 (10 + 265 * l + 0) from hC.1 4 (by decide) (by decide)]
theorem x_line_1 {q : Int × (Int → Int)} {N : Int} {f : Int → Int → Int} {t : (Int → Int) × Nat × Nat × Nat × (Int → Int → Bool)} {l : Int} (hR : ZR N f f) (h0 : 0 ≤ l) (h1 : l < f 1465 3) : zM (true, q) 1898 138 [(19, 0, 0), (0, l, 0), (0, 1, 0)] (f, t) = some ((0, f 1465 (10 + 265 * l + 1), 0), (f, t)) := by
  have hC := (ZR_line hR h0 h1).1
  rw [ze_X_line, zb_X_line_0, zLT hR h0 h1, zK_13, zb_X_line_3]
  show zD (true, q) 1898 zc_X_line (zat zc_X_line 9) _ [] (f, t) = _
  rw [zb_X_line_9]
  show some ((0, f (46 + 18 * l) 5, 0), (f, t)) = _
  rw [show f (46 + 18 * l) 5 = f 1465 (10 + 265 * l + 1) from hC.1 5 (by decide) (by decide)]
theorem x_line_2 {q : Int × (Int → Int)} {N : Int} {f : Int → Int → Int} {t : (Int → Int) × Nat × Nat × Nat × (Int → Int → Bool)} {l : Int} (hR : ZR N f f) (h0 : 0 ≤ l) (h1 : l < f 1465 3) : zM (true, q) 1898 138 [(19, 0, 0), (0, l, 0), (0, 2, 0)] (f, t) = some ((0, f 1465 (10 + 265 * l + 2), 0), (f, t)) := by
  have hC := (ZR_line hR h0 h1).1
  rw [ze_X_line, zb_X_line_0, zLT hR h0 h1, zK_13, zb_X_line_3]
  show zD (true, q) 1898 zc_X_line (zat zc_X_line 12) _ [] (f, t) = _
  rw [zb_X_line_12]
  show some ((0, f (46 + 18 * l) 6, 0), (f, t)) = _
  rw [show f (46 + 18 * l) 6 = f 1465 (10 + 265 * l + 2) from hC.1 6 (by decide) (by decide)]
theorem x_line_3 {q : Int × (Int → Int)} {N : Int} {f : Int → Int → Int} {t : (Int → Int) × Nat × Nat × Nat × (Int → Int → Bool)} {l : Int} (hR : ZR N f f) (h0 : 0 ≤ l) (h1 : l < f 1465 3) : zM (true, q) 1898 138 [(19, 0, 0), (0, l, 0), (0, 3, 0)] (f, t) = some ((0, f 1465 (10 + 265 * l + 3), 0), (f, t)) := by
  have hC := (ZR_line hR h0 h1).1
  rw [ze_X_line, zb_X_line_0, zLT hR h0 h1, zK_13, zb_X_line_3]
  show zD (true, q) 1898 zc_X_line (zat zc_X_line 15) _ [] (f, t) = _
  rw [zb_X_line_15]
  show some ((0, f (46 + 18 * l) 7, 0), (f, t)) = _
  rw [show f (46 + 18 * l) 7 = f 1465 (10 + 265 * l + 3) from hC.1 7 (by decide) (by decide)]
theorem x_line_4 {q : Int × (Int → Int)} {N : Int} {f : Int → Int → Int} {t : (Int → Int) × Nat × Nat × Nat × (Int → Int → Bool)} {l : Int} (hR : ZR N f f) (h0 : 0 ≤ l) (h1 : l < f 1465 3) : zM (true, q) 1898 138 [(19, 0, 0), (0, l, 0), (0, 4, 0)] (f, t) = some ((0, f 1465 (10 + 265 * l + 4), 0), (f, t)) := by
  have hC := (ZR_line hR h0 h1).1
  rw [ze_X_line, zb_X_line_0, zLT hR h0 h1, zK_13, zb_X_line_3]
  show zD (true, q) 1898 zc_X_line (zat zc_X_line 18) _ [] (f, t) = _
  rw [zb_X_line_18]
  show some ((0, f (46 + 18 * l) 8, 0), (f, t)) = _
  rw [show f (46 + 18 * l) 8 = f 1465 (10 + 265 * l + 4) from hC.1 8 (by decide) (by decide)]
theorem x_line_5 {q : Int × (Int → Int)} {N : Int} {f : Int → Int → Int} {t : (Int → Int) × Nat × Nat × Nat × (Int → Int → Bool)} {l : Int} (hR : ZR N f f) (h0 : 0 ≤ l) (h1 : l < f 1465 3) : zM (true, q) 1898 138 [(19, 0, 0), (0, l, 0), (0, 5, 0)] (f, t) = some ((0, f 1465 (10 + 265 * l + 5), 0), (f, t)) := by
  have hC := (ZR_line hR h0 h1).1
  rw [ze_X_line, zb_X_line_0, zLT hR h0 h1, zK_13, zb_X_line_3]
  show zD (true, q) 1898 zc_X_line (zat zc_X_line 21) _ [] (f, t) = _
  rw [zb_X_line_21]
  show some ((0, f (46 + 18 * l) 9, 0), (f, t)) = _
  rw [show f (46 + 18 * l) 9 = f 1465 (10 + 265 * l + 5) from hC.1 9 (by decide) (by decide)]
theorem x_line_6 {q : Int × (Int → Int)} {N : Int} {f : Int → Int → Int} {t : (Int → Int) × Nat × Nat × Nat × (Int → Int → Bool)} {l : Int} (hR : ZR N f f) (h0 : 0 ≤ l) (h1 : l < f 1465 3) : zM (true, q) 1898 138 [(19, 0, 0), (0, l, 0), (0, 6, 0)] (f, t) = some ((0, f 1465 (10 + 265 * l + 6), 0), (f, t)) := by
  have hC := (ZR_line hR h0 h1).1
  rw [ze_X_line, zb_X_line_0, zLT hR h0 h1, zK_13, zb_X_line_3]
  show zD (true, q) 1898 zc_X_line (zat zc_X_line 24) _ [] (f, t) = _
  rw [zb_X_line_24]
  show some ((0, f (46 + 18 * l + 1) 4, 0), (f, t)) = _
  rw [hC.2.1]
theorem x_line_7 {q : Int × (Int → Int)} {N : Int} {f : Int → Int → Int} {t : (Int → Int) × Nat × Nat × Nat × (Int → Int → Bool)} {l : Int} (hR : ZR N f f) (h0 : 0 ≤ l) (h1 : l < f 1465 3) : zM (true, q) 1898 138 [(19, 0, 0), (0, l, 0), (0, 7, 0)] (f, t) = some ((0, f 1465 (10 + 265 * l + 7), 0), (f, t)) := by
  have hC := (ZR_line hR h0 h1).1
  rw [ze_X_line, zb_X_line_0, zLT hR h0 h1, zK_13, zb_X_line_3]
  show zD (true, q) 1898 zc_X_line (zat zc_X_line 28) _ [] (f, t) = _
  rw [zb_X_line_28]
  show some ((0, f (46 + 18 * l + 6) 4, 0), (f, t)) = _
  rw [hC.2.2.1]
theorem x_line_8 {q : Int × (Int → Int)} {N : Int} {f : Int → Int → Int} {t : (Int → Int) × Nat × Nat × Nat × (Int → Int → Bool)} {l : Int} (hR : ZR N f f) (h0 : 0 ≤ l) (h1 : l < f 1465 3) : zM (true, q) 1898 138 [(19, 0, 0), (0, l, 0), (0, 8, 0)] (f, t) = some ((0, f 1465 (10 + 265 * l + 8), 0), (f, t)) := by
  have hC := (ZR_line hR h0 h1).1
  rw [ze_X_line, zb_X_line_0, zLT hR h0 h1, zK_13, zb_X_line_3]
  show zD (true, q) 1898 zc_X_line (zat zc_X_line 32) _ [] (f, t) = _
  rw [zb_X_line_32]
  show some ((0, f (46 + 18 * l) 10, 0), (f, t)) = _
  rw [show f (46 + 18 * l) 10 = f 1465 (10 + 265 * l + 8) from hC.1 10 (by decide) (by decide)]
theorem x_line_9 {q : Int × (Int → Int)} {N : Int} {f : Int → Int → Int} {t : (Int → Int) × Nat × Nat × Nat × (Int → Int → Bool)} {l : Int} (hR : ZR N f f) (h0 : 0 ≤ l) (h1 : l < f 1465 3) : zM (true, q) 1898 138 [(19, 0, 0), (0, l, 0), (0, 9, 0)] (f, t) = some ((0, f 1465 (10 + 265 * l + 9), 0), (f, t)) := by
  have hC := (ZR_line hR h0 h1).1
  rw [ze_X_line, zb_X_line_0, zLT hR h0 h1, zK_13, zb_X_line_3]
  show zD (true, q) 1898 zc_X_line (zat zc_X_line 35) _ [] (f, t) = _
  rw [zb_X_line_35]
  have e := zc_f11 hC
  have h9 := (ZR_line hR h0 h1).2.1.2.2.2.2.2.2.2.2.2.1
  show (if f (46 + 18 * l) 11 = 0 then _ else _) = _
  by_cases c : f 1465 (10 + 265 * l + 9) = 0
  · rw [if_pos (by omega), zb_X_line_40, c]
  · rw [if_neg (by omega), zb_X_line_38, show f 1465 (10 + 265 * l + 9) = 1 by omega]
theorem x_line_10 {q : Int × (Int → Int)} {N : Int} {f : Int → Int → Int} {t : (Int → Int) × Nat × Nat × Nat × (Int → Int → Bool)} {l : Int} (hR : ZR N f f) (h0 : 0 ≤ l) (h1 : l < f 1465 3) : zM (true, q) 1898 138 [(19, 0, 0), (0, l, 0), (0, 10, 0)] (f, t) = some ((0, f 1465 (10 + 265 * l + 10), 0), (f, t)) := by
  have hC := (ZR_line hR h0 h1).1
  rw [ze_X_line, zb_X_line_0, zLT hR h0 h1, zK_13, zb_X_line_3]
  show zD (true, q) 1898 zc_X_line (zat zc_X_line 42) _ [] (f, t) = _
  rw [zb_X_line_42]
  show some ((0, f (46 + 18 * l) 12, 0), (f, t)) = _
  rw [show f (46 + 18 * l) 12 = f 1465 (10 + 265 * l + 10) from hC.1 12 (by decide) (by decide)]
theorem x_line_11 {q : Int × (Int → Int)} {N : Int} {f : Int → Int → Int} {t : (Int → Int) × Nat × Nat × Nat × (Int → Int → Bool)} {l : Int} (hR : ZR N f f) (h0 : 0 ≤ l) (h1 : l < f 1465 3) : zM (true, q) 1898 138 [(19, 0, 0), (0, l, 0), (0, 11, 0)] (f, t) = some ((0, f 1465 (10 + 265 * l + 11), 0), (f, t)) := by
  have hC := (ZR_line hR h0 h1).1
  rw [ze_X_line, zb_X_line_0, zLT hR h0 h1, zK_13, zb_X_line_3]
  show zD (true, q) 1898 zc_X_line (zat zc_X_line 45) _ [] (f, t) = _
  rw [zb_X_line_45]
  show some ((0, f (46 + 18 * l) 13, 0), (f, t)) = _
  rw [show f (46 + 18 * l) 13 = f 1465 (10 + 265 * l + 11) from hC.1 13 (by decide) (by decide)]
theorem x_line_12 {q : Int × (Int → Int)} {N : Int} {f : Int → Int → Int} {t : (Int → Int) × Nat × Nat × Nat × (Int → Int → Bool)} {l : Int} (hR : ZR N f f) (h0 : 0 ≤ l) (h1 : l < f 1465 3) : zM (true, q) 1898 138 [(19, 0, 0), (0, l, 0), (0, 12, 0)] (f, t) = some ((0, f 1465 (10 + 265 * l + 12), 0), (f, t)) := by
  have hC := (ZR_line hR h0 h1).1
  rw [ze_X_line, zb_X_line_0, zLT hR h0 h1, zK_13, zb_X_line_3]
  show zD (true, q) 1898 zc_X_line (zat zc_X_line 48) _ [] (f, t) = _
  rw [zb_X_line_48]
  show some ((0, f (46 + 18 * l) 14, 0), (f, t)) = _
  rw [show f (46 + 18 * l) 14 = f 1465 (10 + 265 * l + 12) from hC.1 14 (by decide) (by decide)]
theorem x_line_13 {q : Int × (Int → Int)} {N : Int} {f : Int → Int → Int} {t : (Int → Int) × Nat × Nat × Nat × (Int → Int → Bool)} {l : Int} (hR : ZR N f f) (h0 : 0 ≤ l) (h1 : l < f 1465 3) : zM (true, q) 1898 138 [(19, 0, 0), (0, l, 0), (0, 13, 0)] (f, t) = some ((0, f 1465 (10 + 265 * l + 13), 0), (f, t)) := by
  have hC := (ZR_line hR h0 h1).1
  rw [ze_X_line, zb_X_line_0, zLT hR h0 h1, zK_13, zb_X_line_3]
  show zD (true, q) 1898 zc_X_line (zat zc_X_line 51) _ [] (f, t) = _
  rw [zb_X_line_51]
  show some ((0, f (46 + 18 * l) 15, 0), (f, t)) = _
  rw [show f (46 + 18 * l) 15 = f 1465 (10 + 265 * l + 13) from hC.1 15 (by decide) (by decide)]
theorem x_line_14 {q : Int × (Int → Int)} {N : Int} {f : Int → Int → Int} {t : (Int → Int) × Nat × Nat × Nat × (Int → Int → Bool)} {l : Int} (hR : ZR N f f) (h0 : 0 ≤ l) (h1 : l < f 1465 3) : zM (true, q) 1898 138 [(19, 0, 0), (0, l, 0), (0, 14, 0)] (f, t) = some ((0, f 1465 (10 + 265 * l + 14), 0), (f, t)) := by
  have hC := (ZR_line hR h0 h1).1
  rw [ze_X_line, zb_X_line_0, zLT hR h0 h1, zK_13, zb_X_line_3]
  show zD (true, q) 1898 zc_X_line (zat zc_X_line 54) _ [] (f, t) = _
  rw [zb_X_line_54]
  show some ((0, f (46 + 18 * l) 16, 0), (f, t)) = _
  rw [show f (46 + 18 * l) 16 = f 1465 (10 + 265 * l + 14) from hC.1 16 (by decide) (by decide)]
theorem x_line_15 {q : Int × (Int → Int)} {N : Int} {f : Int → Int → Int} {t : (Int → Int) × Nat × Nat × Nat × (Int → Int → Bool)} {l : Int} (hR : ZR N f f) (h0 : 0 ≤ l) (h1 : l < f 1465 3) : zM (true, q) 1898 138 [(19, 0, 0), (0, l, 0), (0, 15, 0)] (f, t) = some ((0, f 1465 (10 + 265 * l + 15), 0), (f, t)) := by
  have hC := (ZR_line hR h0 h1).1
  rw [ze_X_line, zb_X_line_0, zLT hR h0 h1, zK_13, zb_X_line_3]
  show zD (true, q) 1898 zc_X_line (zat zc_X_line 57) _ [] (f, t) = _
  rw [zb_X_line_57]
  show some ((0, f (46 + 18 * l) 17, 0), (f, t)) = _
  rw [show f (46 + 18 * l) 17 = f 1465 (10 + 265 * l + 15) from hC.1 17 (by decide) (by decide)]
theorem x_line_16 {q : Int × (Int → Int)} {N : Int} {f : Int → Int → Int} {t : (Int → Int) × Nat × Nat × Nat × (Int → Int → Bool)} {l : Int} (hR : ZR N f f) (h0 : 0 ≤ l) (h1 : l < f 1465 3) : zM (true, q) 1898 138 [(19, 0, 0), (0, l, 0), (0, 16, 0)] (f, t) = some ((0, f 1465 (10 + 265 * l + 16), 0), (f, t)) := by
  have hC := (ZR_line hR h0 h1).1
  rw [ze_X_line, zb_X_line_0, zLT hR h0 h1, zK_13, zb_X_line_3]
  show zD (true, q) 1898 zc_X_line (zat zc_X_line 60) _ [] (f, t) = _
  rw [zb_X_line_60]
  show some ((0, f (46 + 18 * l) 18, 0), (f, t)) = _
  rw [show f (46 + 18 * l) 18 = f 1465 (10 + 265 * l + 16) from hC.1 18 (by decide) (by decide)]

theorem o_line {q : Int × (Int → Int)} {N : Int} {f : Int → Int → Int} {t : (Int → Int) × Nat × Nat × Nat × (Int → Int → Bool)} {l w : Int} (hR : ZR N f f) (hN : N ≤ 1000000) : zOw q N f t 139 [(19, 0, 0), (0, l, 0), (0, w, 0), (31, 1478, 1)] 172 [(20, 1464, 0), (0, l, 0), (0, w, 0)] := by
  have h4 := ZR_4 hR
  have N0 := hR.1
  have hI := hR.2.1.2.2.1
  by_cases hl : 0 ≤ l ∧ l < f 1465 3
  · obtain ⟨hC, hIL⟩ := ZR_line hR hl.1 hl.2
    have hla := zLT (q := q) (d := 1896) (t := t) hR hl.1 hl.2
    by_cases hw : 0 ≤ w ∧ w ≤ 20
    · by_cases hw2 : w < 17
      · have hx : zM (true, q) 1898 138 [(19, 0, 0), (0, l, 0), (0, w, 0)] (f, t) = some ((0, f 1465 (10 + 265 * l + w), 0), (f, t)) := by
          rcases (by omega : w = 0 ∨ w = 1 ∨ w = 2 ∨ w = 3 ∨ w = 4 ∨ w = 5 ∨ w = 6 ∨ w = 7 ∨ w = 8 ∨ w = 9 ∨ w = 10 ∨ w = 11 ∨ w = 12 ∨ w = 13 ∨ w = 14 ∨ w = 15 ∨ w = 16) with rfl | rfl | rfl | rfl | rfl | rfl | rfl | rfl | rfl | rfl | rfl | rfl | rfl | rfl | rfl | rfl | rfl
          · exact x_line_0 hR hl.1 hl.2
          · exact x_line_1 hR hl.1 hl.2
          · exact x_line_2 hR hl.1 hl.2
          · exact x_line_3 hR hl.1 hl.2
          · exact x_line_4 hR hl.1 hl.2
          · exact x_line_5 hR hl.1 hl.2
          · exact x_line_6 hR hl.1 hl.2
          · exact x_line_7 hR hl.1 hl.2
          · exact x_line_8 hR hl.1 hl.2
          · exact x_line_9 hR hl.1 hl.2
          · exact x_line_10 hR hl.1 hl.2
          · exact x_line_11 hR hl.1 hl.2
          · exact x_line_12 hR hl.1 hl.2
          · exact x_line_13 hR hl.1 hl.2
          · exact x_line_14 hR hl.1 hl.2
          · exact x_line_15 hR hl.1 hl.2
          · exact x_line_16 hR hl.1 hl.2
        refine zOw_v rfl hR (k_line_v hx) (fun h => ?_)
        rw [r_line_w hl.1 hl.2 h4.2.2 hw.1 hw.2, zb_M_line_21, if_neg (by omega), zb_M_line_24, r_of hl.1 (by omega) (by omega) (by omega), zK_i, zb_M_line_28]
      · rcases (by omega : w = 17 ∨ w = 18 ∨ w = 19 ∨ w = 20) with rfl | rfl | rfl | rfl
        · have hx : zM (true, q) 1898 138 [(19, 0, 0), (0, l, 0), (0, 17, 0)] (f, t) = some ((0, gLoad (f 1465) (10 + 265 * l), 0), (f, t)) := by
            rw [ze_X_line, zb_X_line_0, hla, zK_13, zb_X_line_3]
            show zD (true, q) 1898 zc_X_line (zat zc_X_line 63) _ [] (f, t) = _
            rw [zb_X_line_63, c_loadR (σ := (f, t)) hIL.1 hIL.2.1 hC, zK_i, zb_X_line_65]
          refine zOw_v rfl hR (k_line_v hx) (fun h => ?_)
          rw [r_line_w hl.1 hl.2 h4.2.2 hw.1 hw.2, zb_M_line_21, if_pos (by omega), zb_M_line_29, if_neg (by omega), zb_M_line_32, r_loadR hl.1 (by omega) hIL.1 hIL.2.1, zK_i, zb_M_line_35]
        · have hx : zM (true, q) 1898 138 [(19, 0, 0), (0, l, 0), (0, 18, 0)] (f, t) = some ((0, gCo (f 1465) (10 + 265 * l), 0), (f, t)) := by
            rw [ze_X_line, zb_X_line_0, hla, zK_13, zb_X_line_3]
            show zD (true, q) 1898 zc_X_line (zat zc_X_line 66) _ [] (f, t) = _
            rw [zb_X_line_66, c_comes (σ := (f, t)) hIL hC, zK_i, zb_X_line_68]
          refine zOw_v rfl hR (k_line_v hx) (fun h => ?_)
          rw [r_line_w hl.1 hl.2 h4.2.2 hw.1 hw.2, zb_M_line_21, if_pos (by omega), zb_M_line_29, if_pos (by omega), zb_M_line_36, if_neg (by omega), zb_M_line_39, r_comes hl.1 (by omega) hIL, zK_i, zb_M_line_42]
        · obtain ⟨S, w, hS, hAC, hAs, hwS, hB⟩ := zRL_ask (q := q) hR.2.2.1
          obtain ⟨fT, rT, tT⟩ := x_window (q := q) (t := t) hR hN hl.1 hl.2 hS hAC
          have hx : zM (true, q) 1898 138 [(19, 0, 0), (0, l, 0), (0, 19, 0)] (f, t) = some ((0, gWi (fun u => kGoes (zLwA S) 0 60 (zup1 (f 1465) (10 + 265 * l + 3) u) 5) 8 1 1 (-1), 0), (fT, t)) := by
            rw [ze_X_line, zb_X_line_0, hla, zK_13, zb_X_line_3]
            show zD (true, q) 1898 zc_X_line (zat zc_X_line 69) _ [] (f, t) = _
            rw [zb_X_line_69, rT, zK_i, zb_X_line_72]
          refine zOw_try hR (k_line_v hx) tT (fun h => ?_)
          have hIs : ∀ s, 1 ≤ s → s ≤ 8 → zWI N (zup1 (f 1465) (10 + 265 * l + 3) s) := fun s s1 s8 => (zW_up (W := 23) (c := 7) (r := 3) (v := s) hl.1 hl.2 hI (by decide) (by decide) (by decide) (by decide) (zIL_f3 ⟨s1, s8⟩ hIL) (by decide) hR.2.1.1 hR.2.1.2.1).2.2
          obtain ⟨h1, h2, r2, a2, b2⟩ := r_window (q := q) (h := zup h 1464 0 0) (t := t) N0 hN hI hl.1 hl.2 hIs hAs hwS hB
          refine ⟨h1, h2, ?_, a2, b2⟩
          rw [r_line_w hl.1 hl.2 h4.2.2 hw.1 hw.2, zb_M_line_21, if_pos (by omega), zb_M_line_29, if_pos (by omega), zb_M_line_36, if_pos (by omega), zb_M_line_43, if_neg (by omega), zb_M_line_46, r2, zK_i, zb_M_line_49]
        · have hV : ∀ i, 0 ≤ i → i < f 1465 3 → rLR (f 1465) (10 + 265 * i) ∧ rLL (f 1465) (10 + 265 * i) := fun i i0 i1 => ⟨(ZR_line hR i0 i1).2.1, (ZR_line hR i0 i1).2.2.1⟩
          have hg := gLoad_rng hIL.1 hIL.2.1
          have hx : zM (true, q) 1898 138 [(19, 0, 0), (0, l, 0), (0, 20, 0)] (f, t) = some ((0, if gAll (f 1465) = 0 then 0 else zdiv (100 * gLoad (f 1465) (10 + 265 * l)) (gAll (f 1465)), 0), (f, t)) := by
            rw [ze_X_line, zb_X_line_0, hla, zK_13, zb_X_line_3]
            show zD (true, q) 1898 zc_X_line (zat zc_X_line 73) _ [] (f, t) = _
            rw [zb_X_line_73, x_partR hR hl.1 hl.2, zK_i, zb_X_line_76]
          refine zOw_v rfl hR (k_line_v hx) (fun h => ?_)
          rw [r_line_w hl.1 hl.2 h4.2.2 hw.1 hw.2, zb_M_line_21, if_pos (by omega), zb_M_line_29, if_pos (by omega), zb_M_line_36, if_pos (by omega), zb_M_line_43, if_pos (by omega), zb_M_line_50, r_all h4.2.1 h4.2.2 hV, zK_i, zb_M_line_52]
          by_cases c : gAll (f 1465) = 0
          · rw [if_neg (fun z => z c), if_pos c, zb_M_line_53]
          · rw [if_pos c, if_neg c, zb_M_line_55, r_loadR hl.1 (by omega) hIL.1 hIL.2.1, zK_i, zb_M_line_59, r_all h4.2.1 h4.2.2 hV, zK_i, zb_M_line_62, zw_id (z := 100 * gLoad (f 1465) (10 + 265 * l)) (by omega) (by omega), zG1 c, zb_M_line_63]
    · have hx : zM (true, q) 1898 138 [(19, 0, 0), (0, l, 0), (0, w, 0)] (f, t) = some ((103, 0, 0), (f, zThr t)) := by
        rw [ze_X_line, zb_X_line_0, hla, zK_13, zb_X_line_3, zsw_out (by omega)]
        show zD (true, q) 1898 zc_X_line (zat zc_X_line 77) _ [] (f, t) = _
        rw [zb_X_line_77]
        rfl
      exact zOw_t (v := 0) rfl hR (by decide) (k_line_103 hx) (fun h => r_line_2 hl.1 hl.2 h4.2.2 hw)
  · have hx : zM (true, q) 1898 138 [(19, 0, 0), (0, l, 0), (0, w, 0)] (f, t) = some ((102, 0, 0), (f, zThr t)) := by
      rw [ze_X_line, zb_X_line_0, zLF_ hR hl]
      rfl
    exact zOw_t (v := 0) rfl hR (by decide) (k_line_102 hx) (fun h => r_line_1 hl h4.2.1 h4.2.2)

