/-! ## pairs: what both do -/
def prW (g : Int → Int) (i j : Int) : Int := 100 - (if g (10 + 265 * j + 1) ≤ g (10 + 265 * i + 1) then g (10 + 265 * j + 1) else g (10 + 265 * i + 1))
theorem VJ_le {W V : Int → Int} {s M : Int} (hV : ∀ r, V r ≤ M) (hW : ∀ j, W j ≤ 100) : ∀ (c : Nat) (j x : Int), x ≤ M + 100 → VJ W V s c j x ≤ M + 100 := by
  intro c
  induction c with
  | zero => intro j x h; exact h
  | succ c ih =>
    intro j x h
    refine ih (j + 1) _ ?_
    have h1 := hV (s - pw j)
    have h2 := hW j
    split
    · split <;> omega
    · exact h
theorem VV_rng {W : Int → Int → Int} (hW : ∀ i j, W i j ≤ 100) : ∀ (k : Nat) (i s : Int), 0 ≤ VV W k i s ∧ VV W k i s ≤ 100 * k := by
  intro k
  induction k with
  | zero => intro i s; exact ⟨Int.le_refl 0, by show (0 : Int) ≤ _; omega⟩
  | succ k ih =>
    intro i s
    show 0 ≤ (if orT s i = 1 then VJ (W i) (VV W k (i + 1)) (s - pw i) k (i + 1) (VV W k (i + 1) (s - pw i)) else VV W k (i + 1) s) ∧ (if orT s i = 1 then VJ (W i) (VV W k (i + 1)) (s - pw i) k (i + 1) (VV W k (i + 1) (s - pw i)) else VV W k (i + 1) s) ≤ _
    by_cases c : orT s i = 1
    · rw [if_pos c]
      have h1 := ih (i + 1) (s - pw i)
      have h2 := VJ_ge (W := W i) (V := VV W k (i + 1)) (s := s - pw i) k (i + 1) (VV W k (i + 1) (s - pw i))
      have h3 := VJ_le (W := W i) (V := VV W k (i + 1)) (s := s - pw i) (M := 100 * k) (fun r => (ih (i + 1) r).2) (hW i) k (i + 1) (VV W k (i + 1) (s - pw i)) (by omega)
      omega
    · rw [if_neg c]
      have := ih (i + 1) s
      omega
theorem c_pairLine {q : Int × (Int → Int)} {d : Nat} {t : (Int → Int) × Nat × Nat × Nat × (Int → Int → Bool)} {S g : Int → Int} {m : Nat} (m4 : m ≤ 4) (hg : ∀ l, 0 ≤ l → l < (m : Int) → 0 ≤ g (10 + 265 * l + 1) ∧ g (10 + 265 * l + 1) ≤ 100) : ∀ (k : Nat) (i s sum : Int) (P : Int → Int) (F : Int → Int → Int), 0 ≤ i → i + k = m → 0 ≤ s → s < 16 → 0 ≤ sum → sum ≤ 100 * i → F 23 4 = m → (∀ l, 0 ≤ l → l < (m : Int) → F (46 + 18 * l) 4 = S l ∧ F (46 + 18 * l) 5 = g (10 + 265 * l + 1)) → (∀ j, 0 ≤ j → j < 4 → F 321 j = P j) → (∀ j, i ≤ j → j < m → (orT s j = 1 ↔ (P j = -1 ∧ S j = 2))) →
  ∃ F2, zM (true, q) (d + k + 1) 253 [(17, 317, 0), (18, 23, 0), (0, i, 0), (0, sum, 0)] (F, t) = some ((9, 0, 0), (F2, t)) ∧ F2 317 6 = (if F 317 6 < sum + (VO (prW g) k i s P).1 then sum + (VO (prW g) k i s P).1 else F 317 6) ∧ (∀ j, 0 ≤ j → j < 4 → F2 322 j = if F 317 6 < sum + (VO (prW g) k i s P).1 then (VO (prW g) k i s P).2 j else F 322 j) ∧ ∀ o k, (o ≠ 317 ∨ k ≠ 6) → o ≠ 322 → F2 o k = F o k := by
  intro k
  induction k with
  | zero =>
    intro i s sum P F i0 hi s0 s1 u0 u1 h4 hl hP hs
    have run : zM (true, q) (d + 0 + 1) 253 [(17, 317, 0), (18, 23, 0), (0, i, 0), (0, sum, 0)] (F, t) = (if sum ≤ F 317 6 then zD (true, q) (d + 0 + 1) zc_Way_pairLine (zat zc_Way_pairLine 17) [(17, 317, 0), (18, 23, 0), (0, i, 0), (0, sum, 0), (2, 0, 0), (2, 0, 0), (2, 0, 0), (2, 0, 0)] [] (F, t) else zD (true, q) (d + 0 + 1) zc_Way_pairLine (zat zc_Way_pairLine 8) [(17, 317, 0), (18, 23, 0), (0, i, 0), (0, sum, 0), (2, 0, 0), (2, 0, 0), (2, 0, 0), (2, 0, 0)] [] (F, t)) := by
      rw [ze_Way_pairLine, zb_Way_pairLine_0]
      show (if i < F 23 4 then _ else _) = _
      rw [if_neg (by omega), zb_Way_pairLine_4]
    have e0 : (VO (prW g) 0 i s P) = (0, P) := rfl
    rw [run, e0]
    show ∃ F2 : Int → Int → Int, _ = _ ∧ F2 317 6 = (if F 317 6 < sum + 0 then sum + 0 else F 317 6) ∧ (∀ j, 0 ≤ j → j < 4 → F2 322 j = if F 317 6 < sum + 0 then P j else F 322 j) ∧ _
    rw [Int.add_zero]
    by_cases c : sum ≤ F 317 6
    · refine ⟨F, ?_, ?_, fun j j0 j1 => ?_, fun _ _ _ _ => rfl⟩
      · rw [if_pos c, zb_Way_pairLine_17]
      · rw [if_neg (by omega)]
      · rw [if_neg (by omega)]
    · refine ⟨zcpy (zup F 317 6 sum) 321 0 322 0 4, ?_, ?_, fun j j0 j1 => ?_, fun o k a b => ?_⟩
      · rw [if_neg c, zb_Way_pairLine_8, s_copyRow (by decide) (by decide), zK_v, zb_Way_pairLine_17]
        rfl
      · rw [if_pos (by omega), zcpy_na (by decide), zupE rfl rfl]
      · rw [if_pos (by omega), zcpy_in rfl j0 (by omega), Int.zero_add, Int.sub_zero, zup_na (by decide)]
        exact hP j j0 j1
      · rw [zcpy_na b, zup_nka (by omega)]
  | succ k ih =>
    intro i s sum P F i0 hi s0 s1 u0 u1 h4 hl hP hs
    have hsi := hs i (Int.le_refl i) (by omega)
    obtain ⟨li1, li2⟩ := hl i i0 (by omega)
    have gi := hg i i0 (by omega)
    have run0 : zM (true, q) (d + (k + 1) + 1) 253 [(17, 317, 0), (18, 23, 0), (0, i, 0), (0, sum, 0)] (F, t) = zK (zD (true, q) (d + (k + 1) + 1) zc_Way_pairLine) zEx zc_Way_pairLine (zat zc_Way_pairLine 25) [(17, 317, 0), (18, 23, 0), (0, i, 0), (0, sum, 0), (2, 0, 0), (2, 0, 0), (2, 0, 0), (2, 0, 0)] [] (zM (true, q) (d + k + 1) 253 [(17, 317, 0), (18, 23, 0), (0, i + 1, 0), (0, sum, 0)] (F, t)) := by
      rw [ze_Way_pairLine, zb_Way_pairLine_0]
      show (if i < F 23 4 then _ else _) = _
      rw [if_pos (by omega), zb_Way_pairLine_18, zw_id (z := i + 1) (by omega) (by omega)]
      rfl
    have mid : ∀ F1 : Int → Int → Int, (∀ o k, (o ≠ 317 ∨ k ≠ 6) → o ≠ 322 → F1 o k = F o k) → zD (true, q) (d + (k + 1) + 1) zc_Way_pairLine (zat zc_Way_pairLine 25) [(17, 317, 0), (18, 23, 0), (0, i, 0), (0, sum, 0), (2, 0, 0), (2, 0, 0), (2, 0, 0), (2, 0, 0)] [] (F1, t) = (if P i = -1 ∧ S i = 2 then zD (true, q) (d + (k + 1) + 1) zc_Way_pairLine (zat zc_Way_pairLine 44) [(17, 317, 0), (18, 23, 0), (0, i, 0), (0, sum, 0), (13, 46 + 18 * i, 0), (0, i + 1, 0), (2, 0, 0), (2, 0, 0)] [] (F1, t) else some ((9, 0, 0), (F1, t))) := by
      intro F1 fr
      rw [zb_Way_pairLine_25, s_lineAt i0 (by omega), zK_13, zb_Way_pairLine_28, show (23 : Int) + 23 + 18 * i = 46 + 18 * i by omega, s_at i0 (by omega), zK_i]
      show zD (true, q) (d + (k + 1) + 1) zc_Way_pairLine (zat zc_Way_pairLine 33) _ [(0, F1 321 i, 0)] (F1, t) = _
      rw [fr _ _ (by omega) (by decide), hP i i0 (by omega), zb_Way_pairLine_33]
      by_cases c : P i = -1
      · rw [if_neg (fun z => z c), zb_Way_pairLine_35]
        show (if F1 (46 + 18 * i) 4 = 2 then _ else _) = _
        rw [fr _ _ (by omega) (by omega), li1]
        by_cases c2 : S i = 2
        · rw [if_pos c2, if_pos ⟨c, c2⟩, zb_Way_pairLine_40, zw_id (z := i + 1) (by omega) (by omega)]
        · rw [if_neg c2, if_neg (fun z => c2 z.2), zb_Way_pairLine_39]
      · rw [if_pos c, if_neg (fun z => c z.1), zb_Way_pairLine_39]
    by_cases hb : orT s i = 1
    · obtain ⟨p0, p1, _, p3⟩ := pw_of s0 s1 i0 (by omega) hb
      have un : VO (prW g) (k + 1) i s P = OJ (prW g i) (VO (prW g) k (i + 1)) (s - pw i) i P k (i + 1) (VO (prW g) k (i + 1) (s - pw i) P) := if_pos hb
      have hs1 : ∀ j, i + 1 ≤ j → j < m → (orT (s - pw i) j = 1 ↔ (P j = -1 ∧ S j = 2)) := fun j j0 j1 => by
        rw [p3 j (by omega) (by omega), if_neg (by omega)]
        exact hs j (by omega) j1
      obtain ⟨F1, r1, a1, b1, fr1⟩ := ih (i + 1) (s - pw i) sum P F (by omega) (by omega) p0 (by omega) u0 (by omega) h4 hl hP hs1
      have loop : ∀ (c : Nat) (j : Int) (x : Int × (Int → Int)) (v6 v7 : zV) (F1 : Int → Int → Int), i + 1 ≤ j → j + c = m → F1 317 6 = (if F 317 6 < sum + x.1 then sum + x.1 else F 317 6) → (∀ j, 0 ≤ j → j < 4 → F1 322 j = if F 317 6 < sum + x.1 then x.2 j else F 322 j) → (∀ o k, (o ≠ 317 ∨ k ≠ 6) → o ≠ 322 → F1 o k = F o k) → ∃ F2, zD (true, q) (d + (k + 1) + 1) zc_Way_pairLine (zat zc_Way_pairLine 44) [(17, 317, 0), (18, 23, 0), (0, i, 0), (0, sum, 0), (13, 46 + 18 * i, 0), (0, j, 0), v6, v7] [] (F1, t) = some ((9, 0, 0), (F2, t)) ∧ F2 317 6 = (if F 317 6 < sum + (OJ (prW g i) (VO (prW g) k (i + 1)) (s - pw i) i P c j x).1 then sum + (OJ (prW g i) (VO (prW g) k (i + 1)) (s - pw i) i P c j x).1 else F 317 6) ∧ (∀ l, 0 ≤ l → l < 4 → F2 322 l = if F 317 6 < sum + (OJ (prW g i) (VO (prW g) k (i + 1)) (s - pw i) i P c j x).1 then (OJ (prW g i) (VO (prW g) k (i + 1)) (s - pw i) i P c j x).2 l else F 322 l) ∧ ∀ o k, (o ≠ 317 ∨ k ≠ 6) → o ≠ 322 → F2 o k = F o k := by
        intro c
        induction c with
        | zero =>
          intro j x v6 v7 F1 j0 hj a1 b1 fr1
          refine ⟨F1, ?_, a1, b1, fr1⟩
          rw [zb_Way_pairLine_44]
          show (if F1 23 4 ≤ j then _ else _) = _
          rw [fr1 _ _ (by omega) (by decide), if_pos (by omega), zb_Way_pairLine_106]
        | succ c ihc =>
          intro j x v6 v7 F1 j0 hj a1 b1 fr1
          obtain ⟨lj1, lj2⟩ := hl j (by omega) (by omega)
          have gj := hg j (by omega) (by omega)
          have uo : OJ (prW g i) (VO (prW g) k (i + 1)) (s - pw i) i P (c + 1) j x = OJ (prW g i) (VO (prW g) k (i + 1)) (s - pw i) i P c (j + 1) (if orT (s - pw i) j = 1 then (if x.1 < prW g i j + (VO (prW g) k (i + 1) (s - pw i - pw j) (zup1 (zup1 P i j) j i)).1 then (prW g i j + (VO (prW g) k (i + 1) (s - pw i - pw j) (zup1 (zup1 P i j) j i)).1, (VO (prW g) k (i + 1) (s - pw i - pw j) (zup1 (zup1 P i j) j i)).2) else x) else x) := rfl
          have head : zD (true, q) (d + (k + 1) + 1) zc_Way_pairLine (zat zc_Way_pairLine 44) [(17, 317, 0), (18, 23, 0), (0, i, 0), (0, sum, 0), (13, 46 + 18 * i, 0), (0, j, 0), v6, v7] [] (F1, t) = (if P j = -1 ∧ S j = 2 then zD (true, q) (d + (k + 1) + 1) zc_Way_pairLine (zat zc_Way_pairLine 62) [(17, 317, 0), (18, 23, 0), (0, i, 0), (0, sum, 0), (13, 46 + 18 * i, 0), (0, j, 0), (13, 46 + 18 * j, 0), v7] [] (F1, t) else zD (true, q) (d + (k + 1) + 1) zc_Way_pairLine (zat zc_Way_pairLine 44) [(17, 317, 0), (18, 23, 0), (0, i, 0), (0, sum, 0), (13, 46 + 18 * i, 0), (0, j + 1, 0), (13, 46 + 18 * j, 0), v7] [] (F1, t)) := by
            rw [zb_Way_pairLine_44]
            show (if F1 23 4 ≤ j then _ else _) = _
            rw [fr1 _ _ (by omega) (by decide), if_neg (by omega), zb_Way_pairLine_48, s_lineAt (by omega) (by omega), zK_13, zb_Way_pairLine_51, show (23 : Int) + 23 + 18 * j = 46 + 18 * j by omega, s_at (by omega) (by omega), zK_i]
            show zD (true, q) (d + (k + 1) + 1) zc_Way_pairLine (zat zc_Way_pairLine 56) _ [(0, F1 321 j, 0)] (F1, t) = _
            rw [fr1 _ _ (by omega) (by decide), hP j (by omega) (by omega), zb_Way_pairLine_56]
            by_cases c1 : P j = -1
            · rw [if_neg (fun z => z c1), zb_Way_pairLine_58]
              show (if F1 (46 + 18 * j) 4 ≠ 2 then _ else _) = _
              rw [fr1 _ _ (by omega) (by omega), lj1]
              by_cases c2 : S j = 2
              · rw [if_neg (fun z => z c2), if_pos ⟨c1, c2⟩]
              · rw [if_pos c2, if_neg (fun z => c2 z.2), zb_Way_pairLine_104, zw_id (z := j + 1) (by omega) (by omega)]
            · rw [if_pos c1, if_neg (fun z => c1 z.1), zb_Way_pairLine_104, zw_id (z := j + 1) (by omega) (by omega)]
          by_cases hj1 : orT (s - pw i) j = 1
          · obtain ⟨cP, cS⟩ := (hs1 j j0 (by omega)).mp hj1
            obtain ⟨pj0, pj1, _, pj3⟩ := pw_of p0 (by omega) (show 0 ≤ j by omega) (by omega) hj1
            have cPi := (hsi.mp hb).1
            have wr : 0 ≤ prW g i j ∧ prW g i j ≤ 100 := by
              unfold prW
              split <;> omega
            generalize hG : zup (zup F1 321 i j) 321 j i = G
            have frG : ∀ o k, o ≠ 321 → G o k = F1 o k := fun o k a => by rw [← hG, zup_na a, zup_na a]
            obtain ⟨F3, r3, a3, b3, fr3⟩ := ih (i + 1) (s - pw i - pw j) (sum + prW g i j) (zup1 (zup1 P i j) j i) G (by omega) (by omega) pj0 (by omega) (by omega) (by omega) (by rw [frG _ _ (by decide), fr1 _ _ (by omega) (by decide)]; exact h4) (fun l l0 l1 => by rw [frG _ _ (by omega), frG _ _ (by omega), fr1 _ _ (by omega) (by omega), fr1 _ _ (by omega) (by omega)]; exact hl l l0 l1) (fun l l0 l1 => by
              rw [← hG]
              by_cases e1 : l = j
              · rw [e1, zupE rfl rfl, zup1_eq rfl]
              · rw [zup_nk e1, zup1_ne e1]
                by_cases e2 : l = i
                · rw [e2, zupE rfl rfl, zup1_eq rfl]
                · rw [zup_nk e2, zup1_ne e2, fr1 _ _ (by omega) (by decide)]
                  exact hP l l0 l1) (fun l l0 l1 => by
              rw [pj3 l (by omega) (by omega)]
              by_cases e1 : l = j
              · rw [if_pos e1, e1, zup1_eq rfl]
                constructor
                · intro z; omega
                · intro z; omega
              · rw [if_neg e1, zup1_ne e1, zup1_ne (by omega)]
                exact hs1 l l0 l1)
            generalize hv : VO (prW g) k (i + 1) (s - pw i - pw j) (zup1 (zup1 P i j) j i) = v at *
            generalize hH : zup (zup F3 321 i (-1)) 321 j (-1) = H
            have frH : ∀ o k, o ≠ 321 → H o k = F3 o k := fun o k a => by rw [← hH, zup_na a, zup_na a]
            have H321 : ∀ l, H 321 l = F 321 l := fun l => by
              rw [← hH]
              by_cases e1 : l = j
              · rw [e1, zupE rfl rfl, hP j (by omega) (by omega), cP]
              · rw [zup_nk e1]
                by_cases e2 : l = i
                · rw [e2, zupE rfl rfl, hP i i0 (by omega), cPi]
                · rw [zup_nk e2, fr3 _ _ (by omega) (by decide), ← hG, zup_nk e1, zup_nk e2]
                  exact fr1 _ _ (by omega) (by decide)
            have G6 : G 317 6 = F1 317 6 := frG _ _ (by decide)
            have G22 : ∀ l, G 322 l = F1 322 l := fun l => frG _ _ (by decide)
            have body : ∃ v7', zD (true, q) (d + (k + 1) + 1) zc_Way_pairLine (zat zc_Way_pairLine 62) [(17, 317, 0), (18, 23, 0), (0, i, 0), (0, sum, 0), (13, 46 + 18 * i, 0), (0, j, 0), (13, 46 + 18 * j, 0), v7] [] (F1, t) = zD (true, q) (d + (k + 1) + 1) zc_Way_pairLine (zat zc_Way_pairLine 44) [(17, 317, 0), (18, 23, 0), (0, i, 0), (0, sum, 0), (13, 46 + 18 * i, 0), (0, j + 1, 0), (13, 46 + 18 * j, 0), v7'] [] (H, t) := by
              have tail : ∀ less, prW g i j = 100 - less → 0 ≤ less → less ≤ 100 → zD (true, q) (d + (k + 1) + 1) zc_Way_pairLine (zat zc_Way_pairLine 78) [(17, 317, 0), (18, 23, 0), (0, i, 0), (0, sum, 0), (13, 46 + 18 * i, 0), (0, j, 0), (13, 46 + 18 * j, 0), (0, less, 0)] [] (zup F1 321 i j, t) = zD (true, q) (d + (k + 1) + 1) zc_Way_pairLine (zat zc_Way_pairLine 44) [(17, 317, 0), (18, 23, 0), (0, i, 0), (0, sum, 0), (13, 46 + 18 * i, 0), (0, j + 1, 0), (13, 46 + 18 * j, 0), (0, less, 0)] [] (H, t) := by
                intro less hw l0 l1
                rw [zb_Way_pairLine_78, s_put (by omega) (by omega), zK_v, zb_Way_pairLine_83]
                show zK _ _ _ _ _ _ (zM (true, q) (d + k + 1) 253 [(17, 317, 0), (18, 23, 0), (0, zw (i + 1), 0), (0, zw (zw (sum + 100) - less), 0)] (zup (zup F1 321 i j) 321 j i, t)) = _
                rw [hG, zw_id (z := i + 1) (by omega) (by omega), zw_id (z := sum + 100) (by omega) (by omega), zw_id (z := sum + 100 - less) (by omega) (by omega), show sum + 100 - less = sum + prW g i j by omega, r3, zK_v, zb_Way_pairLine_94, s_put i0 (by omega), zK_v, zb_Way_pairLine_99, s_put (by omega) (by omega), zK_v]
                show zD (true, q) (d + (k + 1) + 1) zc_Way_pairLine (zat zc_Way_pairLine 104) _ _ (zup (zup F3 321 i (-1)) 321 j (-1), t) = _
                rw [hH, zb_Way_pairLine_104, zw_id (z := j + 1) (by omega) (by omega)]
              rw [zb_Way_pairLine_62]
              show ∃ v7', (if F1 (46 + 18 * j) 5 ≤ F1 (46 + 18 * i) 5 then _ else _) = _
              rw [fr1 (46 + 18 * j) 5 (by omega) (by omega), fr1 (46 + 18 * i) 5 (by omega) (by omega), lj2, li2]
              by_cases cn : g (10 + 265 * j + 1) ≤ g (10 + 265 * i + 1)
              · refine ⟨(0, g (10 + 265 * j + 1), 0), ?_⟩
                rw [if_pos cn, zb_Way_pairLine_70, s_put i0 (by omega), zK_v]
                show zD (true, q) (d + (k + 1) + 1) zc_Way_pairLine (zat zc_Way_pairLine 78) [_, _, _, _, _, _, _, (0, F1 (46 + 18 * j) 5, 0)] _ (zup F1 321 i j, t) = _
                rw [fr1 (46 + 18 * j) 5 (by omega) (by omega), lj2]
                exact tail _ (by unfold prW; rw [if_pos cn]) gj.1 gj.2
              · refine ⟨(0, g (10 + 265 * i + 1), 0), ?_⟩
                rw [if_neg cn, zb_Way_pairLine_67, s_put i0 (by omega), zK_v]
                show zD (true, q) (d + (k + 1) + 1) zc_Way_pairLine (zat zc_Way_pairLine 78) [_, _, _, _, _, _, _, (0, F1 (46 + 18 * i) 5, 0)] _ (zup F1 321 i j, t) = _
                rw [fr1 (46 + 18 * i) 5 (by omega) (by omega), li2]
                exact tail _ (by unfold prW; rw [if_neg cn]) gi.1 gi.2
            obtain ⟨v7', body⟩ := body
            rw [if_pos hj1] at uo
            have frHF : ∀ o k, (o ≠ 317 ∨ k ≠ 6) → o ≠ 322 → H o k = F o k := fun o k a b => by
              by_cases e : o = 321
              · rw [e]; exact H321 k
              · rw [frH o k e, fr3 o k a b, frG o k e, fr1 o k a b]
            obtain ⟨F2, r2, a2, b2, fr2⟩ := ihc (j + 1) (if x.1 < prW g i j + v.1 then (prW g i j + v.1, v.2) else x) (13, 46 + 18 * j, 0) v7' H (by omega) (by omega) (by
              rw [frH _ _ (by decide), a3, G6, a1]
              by_cases e1 : F 317 6 < sum + x.1
              · rw [if_pos e1]
                by_cases e2 : x.1 < prW g i j + v.1
                · rw [if_pos e2, if_pos (by omega), if_pos (by show F 317 6 < sum + (prW g i j + v.1); omega)]
                  show sum + prW g i j + v.1 = sum + (prW g i j + v.1)
                  omega
                · rw [if_neg e2, if_neg (by omega), if_pos e1]
              · rw [if_neg e1]
                by_cases e3 : F 317 6 < sum + prW g i j + v.1
                · rw [if_pos e3, if_pos (show x.1 < prW g i j + v.1 by omega), if_pos (by show F 317 6 < sum + (prW g i j + v.1); omega)]
                  show sum + prW g i j + v.1 = sum + (prW g i j + v.1)
                  omega
                · rw [if_neg e3, if_neg]
                  by_cases e2 : x.1 < prW g i j + v.1
                  · rw [if_pos e2]; show ¬ F 317 6 < sum + (prW g i j + v.1); omega
                  · rw [if_neg e2]; exact e1) (fun l l0 l1 => by
              rw [frH _ _ (by decide), b3 l l0 l1, G6, G22, a1, b1 l l0 l1]
              by_cases e1 : F 317 6 < sum + x.1
              · rw [if_pos e1, if_pos e1]
                by_cases e2 : x.1 < prW g i j + v.1
                · rw [if_pos e2, if_pos (by omega), if_pos (by show F 317 6 < sum + (prW g i j + v.1); omega)]
                · rw [if_neg e2, if_neg (by omega), if_pos e1]
              · rw [if_neg e1, if_neg e1]
                by_cases e3 : F 317 6 < sum + prW g i j + v.1
                · rw [if_pos e3, if_pos (show x.1 < prW g i j + v.1 by omega), if_pos (by show F 317 6 < sum + (prW g i j + v.1); omega)]
                · rw [if_neg e3, if_neg]
                  by_cases e2 : x.1 < prW g i j + v.1
                  · rw [if_pos e2]; show ¬ F 317 6 < sum + (prW g i j + v.1); omega
                  · rw [if_neg e2]; exact e1) frHF
            refine ⟨F2, ?_, ?_, ?_, fr2⟩
            · rw [head, if_pos ⟨cP, cS⟩, body]
              exact r2
            · rw [uo]; exact a2
            · rw [uo]; exact b2
          · rw [if_neg hj1] at uo
            obtain ⟨F2, r2, a2, b2, fr2⟩ := ihc (j + 1) x (13, 46 + 18 * j, 0) v7 F1 (by omega) (by omega) a1 b1 fr1
            refine ⟨F2, ?_, ?_, ?_, fr2⟩
            · rw [head, if_neg (fun z => hj1 ((hs1 j j0 (by omega)).mpr z))]
              exact r2
            · rw [uo]; exact a2
            · rw [uo]; exact b2
      obtain ⟨F2, r2, a2, b2, fr2⟩ := loop k (i + 1) (VO (prW g) k (i + 1) (s - pw i) P) (2, 0, 0) (2, 0, 0) F1 (by omega) (by omega) a1 b1 fr1
      refine ⟨F2, ?_, ?_, ?_, fr2⟩
      · rw [run0, r1, zK_v, mid F1 fr1, if_pos (hsi.mp hb)]
        exact r2
      · rw [un]; exact a2
      · rw [un]; exact b2
    · have un : VO (prW g) (k + 1) i s P = VO (prW g) k (i + 1) s P := if_neg hb
      obtain ⟨F1, r1, a1, b1, fr1⟩ := ih (i + 1) s sum P F (by omega) (by omega) s0 s1 u0 (by omega) h4 hl hP (fun j j0 j1 => hs j (by omega) j1)
      rw [un]
      refine ⟨F1, ?_, a1, b1, fr1⟩
      rw [run0, r1, zK_v, mid F1 fr1, if_neg (fun z => hb (hsi.mpr z))]

