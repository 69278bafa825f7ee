/-! ## pairs, whole -/
theorem fjP_congr {W V V2 : Int → Int} {s M : Int} : ∀ (c : Nat) (j : Int), (∀ l, j ≤ l → l < j + c → orT s l = 1 → V (s - pw l) = V2 (s - pw l)) → fjP W V s M c j = fjP W V2 s M c j := by
  intro c
  induction c with
  | zero => intro j _; rfl
  | succ c ih =>
    intro j h
    show (if orT s j = 1 ∧ W j + V (s - pw j) = M then j else fjP W V s M c (j + 1)) = (if orT s j = 1 ∧ W j + V2 (s - pw j) = M then j else fjP W V2 s M c (j + 1))
    rw [ih (j + 1) (fun l l0 l1 => h l (by omega) (by omega))]
    by_cases b : orT s j = 1
    · rw [h j (by omega) (by omega) b]
    · rw [if_neg (fun z => b z.1), if_neg (fun z => b z.1)]
theorem VO_idx {W : Int → Int → Int} {j : Int} (j0 : 0 ≤ j) (j4 : j < 4) : ∀ (k : Nat) (i s : Int) (P : Int → Int), 0 ≤ i → i + k ≤ 4 → 0 ≤ s → s < 16 → orT s j = 0 → (VO W k i s P).2 j = P j := by
  intro k
  induction k with
  | zero => intro i s P _ _ _ _ _; rfl
  | succ k ih =>
    intro i s P i0 hi s0 s1 hj
    by_cases b : orT s i = 1
    · obtain ⟨p0, p1, _, p3⟩ := pw_of s0 s1 i0 (by omega) b
      have un : VO W (k + 1) i s P = OJ (W i) (VO W k (i + 1)) (s - pw i) i P k (i + 1) (VO W k (i + 1) (s - pw i) P) := if_pos b
      have ji : j ≠ i := fun z => by rw [z] at hj; omega
      have bj : orT (s - pw i) j = 0 := by rw [p3 j j0 (by omega), if_neg ji]; exact hj
      have loop : ∀ (c : Nat) (l : Int) (x : Int × (Int → Int)), i + 1 ≤ l → l + c ≤ 4 → x.2 j = P j → (OJ (W i) (VO W k (i + 1)) (s - pw i) i P c l x).2 j = P j := by
        intro c
        induction c with
        | zero => intro l x _ _ h; exact h
        | succ c ihc =>
          intro l x l0 l1 h
          refine ihc (l + 1) _ (by omega) (by omega) ?_
          by_cases bl : orT (s - pw i) l = 1
          · rw [if_pos bl]
            obtain ⟨q0, q1, _, q3⟩ := pw_of p0 (by omega) (show 0 ≤ l by omega) (by omega) bl
            have jl : j ≠ l := fun z => by rw [z] at bj; omega
            split
            · show (VO W k (i + 1) (s - pw i - pw l) (zup1 (zup1 P i l) l i)).2 j = P j
              rw [ih (i + 1) _ _ (by omega) (by omega) q0 (by omega) (by rw [q3 j j0 (by omega), if_neg jl]; exact bj), zup1_ne jl, zup1_ne ji]
            · exact h
          · rw [if_neg bl]; exact h
      rw [un]
      exact loop k (i + 1) _ (Int.le_refl _) (by omega) (ih (i + 1) _ P (by omega) (by omega) p0 (by omega) bj)
    · have un : VO W (k + 1) i s P = VO W k (i + 1) s P := if_neg b
      rw [un]
      exact ih (i + 1) s P (by omega) (by omega) s0 s1 hj
theorem zor_dec : ∀ a : Nat, a < 16 → ∀ i : Nat, i < 4 → zor a 0 = a ∧ 0 ≤ zor a (zshl 1 i) ∧ zor a (zshl 1 i) < 16 ∧ ∀ j : Nat, j < 5 → orT (zor a (zshl 1 i)) j = if j = i then 1 else orT a j := by
  decide +kernel
theorem gIn_bit {g : Int → Int} {s j : Int} (j0 : 0 ≤ j) (j5 : j < 5) : ∀ (k : Nat) (i acc : Int), 0 ≤ i → i + k ≤ 4 → 0 ≤ acc → acc < 16 → orT (gIn g s k i acc) j = if i ≤ j ∧ j < i + k ∧ g (10 + 265 * j + 0) = s then 1 else orT acc j := by
  intro k
  induction k with
  | zero => intro i acc _ _ _ _; show orT acc j = _; rw [if_neg (by omega)]
  | succ k ih =>
    intro i acc i0 hi a0 a1
    have ha := Int.toNat_of_nonneg a0
    have hii := Int.toNat_of_nonneg i0
    have hj := Int.toNat_of_nonneg j0
    obtain ⟨d1, d2, d3, d4⟩ := zor_dec acc.toNat (by omega) i.toNat (by omega)
    have d4 := d4 j.toNat (by omega)
    rw [ha] at d1
    rw [ha, hii] at d2 d3 d4
    rw [hj] at d4
    show orT (gIn g s k (i + 1) (zor acc (if g (10 + 265 * i + 0) = s then zshl 1 i else 0))) j = _
    by_cases c : g (10 + 265 * i + 0) = s
    · rw [if_pos c, ih (i + 1) _ (by omega) (by omega) d2 d3, d4]
      by_cases e : j = i
      · rw [if_neg (by omega), if_pos (by omega), if_pos ⟨by omega, by omega, by rw [e]; exact c⟩]
      · rw [if_neg (show ¬ j.toNat = i.toNat by omega)]
        by_cases e2 : i + 1 ≤ j ∧ j < i + 1 + k ∧ g (10 + 265 * j + 0) = s
        · rw [if_pos e2, if_pos ⟨by omega, by omega, e2.2.2⟩]
        · rw [if_neg e2, if_neg (fun z => e2 ⟨by omega, by omega, z.2.2⟩)]
    · rw [if_neg c, d1, ih (i + 1) _ (by omega) (by omega) a0 a1]
      by_cases e : j = i
      · rw [if_neg (by omega), if_neg (fun z => c (by rw [← e]; exact z.2.2))]
      · by_cases e2 : i + 1 ≤ j ∧ j < i + 1 + k ∧ g (10 + 265 * j + 0) = s
        · rw [if_pos e2, if_pos ⟨by omega, by omega, e2.2.2⟩]
        · rw [if_neg e2, if_neg (fun z => e2 ⟨by omega, by omega, z.2.2⟩)]
theorem orM_up_dec : ∀ m : Nat, m < 5 → ∀ s : Nat, s < 16 → (∀ j : Nat, j < 5 → m ≤ j → orT s j = 0) → (s : Int) < orM m := by
  decide +kernel
theorem r_partner {q : Int × (Int → Int)} {t : (Int → Int) × Nat × Nat × Nat × (Int → Int → Bool)} {h : Int → Int → Int} {g : Int → Int} {m : Nat} {one : Int} (hm : g 3 = m) (m4 : m ≤ 4) (hg : ∀ l, 0 ≤ l → l < (m : Int) → 0 ≤ g (10 + 265 * l + 1) ∧ g (10 + 265 * l + 1) ≤ 100) (o0 : 0 ≤ one) (o1 : one < m) (hB : ∀ s, 0 ≤ s → s < orM m → h 1476 s = VV (prW g) m 0 s) : ∀ (k : Nat) (i s : Int) (P : Int → Int) (v3 v4 v5 v6 : zV), 0 ≤ i → i + k = m → 0 ≤ s → s < orM m → (∀ j, 0 ≤ j → j < i → orT s j = 0) → P one = -1 → zD (true, q) 1899 zc_M_pairs (zat zc_M_pairs 31) [(20, 1464, 0), (0, one, 0), (0, s, 0), v3, v4, v5, v6] [] (zrow h 1465 g, t) = some ((0, (VO (prW g) k i s P).2 one, 0), (zrow h 1465 g, t)) := by
  have hM16 : orM (m : Int) ≤ 16 := by
    rcases (by omega : m = 0 ∨ m = 1 ∨ m = 2 ∨ m = 3 ∨ m = 4) with rfl | rfl | rfl | rfl | rfl <;> decide
  have vr := fun s => VV_pr (g := g) (m := m) hg (k := m) (i := 0) (s := s) (Int.le_refl 0) (by omega)
  intro k
  induction k with
  | zero =>
    intro i s P v3 v4 v5 v6 i0 hi s0 s1 hz hP
    have e : s = 0 := orT_zero s0 (by omega) (fun j j0 j1 => by
      rcases Int.lt_or_le j i with a | a
      · exact hz j j0 a
      · exact orM_lt m4 s0 (by omega) s1 (by omega) (by omega))
    rw [zb_M_pairs_31, if_pos e, zb_M_pairs_117]
    show some ((0, -1, 0), _) = some ((0, P one, 0), _)
    rw [hP]
  | succ k ih =>
    intro i s P v3 v4 v5 v6 i0 hi s0 s1 hz hP
    by_cases b : orT s i = 1
    · obtain ⟨p0, p1, p2, p3⟩ := pw_of s0 (by omega) i0 (by omega) b
      have sne : s ≠ 0 := fun z => by rw [z] at p1; omega
      generalize hr : s - pw i = r at p0 p1 p2 p3
      have un : VO (prW g) (k + 1) i s P = OJ (prW g i) (VO (prW g) k (i + 1)) r i P k (i + 1) (VO (prW g) k (i + 1) r P) := by rw [← hr]; exact if_pos b
      have zr : ∀ j, 0 ≤ j → j < i + 1 → orT r j = 0 := fun j j0 j1 => by
        rw [p3 j j0 (by omega)]
        by_cases e : j = i
        · rw [if_pos e]
        · rw [if_neg e]; exact hz j j0 (by omega)
      have eB : ∀ x, (∀ j, 0 ≤ j → j < i + 1 → orT x j = 0) → VV (prW g) m 0 x = VV (prW g) k (i + 1) x := fun x hx => by
        have := VV_skip (W := prW g) (i.toNat + 1) k 0 x (fun j j0 j1 => hx j j0 (by omega))
        rw [show k + (i.toNat + 1) = m by omega, show (0 : Int) + ((i.toNat + 1 : Nat) : Int) = i + 1 by omega] at this
        exact this
      have eS : VV (prW g) m 0 s = VV (prW g) (k + 1) i s := by
        have := VV_skip (W := prW g) i.toNat (k + 1) 0 s (fun j j0 j1 => hz j j0 (by omega))
        rw [show k + 1 + i.toNat = m by omega, show (0 : Int) + (i.toNat : Int) = i by omega] at this
        exact this
      have eS2 : VV (prW g) (k + 1) i s = VJ (prW g i) (VV (prW g) k (i + 1)) r k (i + 1) (VV (prW g) k (i + 1) r) := by rw [← hr]; exact if_pos b
      have pk := OJ_pick (W := prW g i) (V := VV (prW g) k (i + 1)) (O := VO (prW g) k (i + 1)) (s := r) (i := i) (P := P) (fun s P => VO_1 k (i + 1) s P) k (i + 1) (VO (prW g) k (i + 1) r P)
      rw [← un, VO_1, ← eS2, ← eS, ← eB r zr] at pk
      have ef : fjP (prW g i) (VV (prW g) k (i + 1)) r (VV (prW g) m 0 s) k (i + 1) = fjP (prW g i) (VV (prW g) m 0) r (VV (prW g) m 0 s) k (i + 1) := fjP_congr k (i + 1) (fun l l0 l1 bl => (eB _ (fun j j0 j1 => by
        obtain ⟨_, _, _, q3⟩ := pw_of p0 (by omega) (show 0 ≤ l by omega) (by omega) bl
        rw [q3 j j0 (by omega), if_neg (by omega)]
        exact zr j j0 j1)).symm)
      rw [ef] at pk
      have head : ∃ w6, zD (true, q) 1899 zc_M_pairs (zat zc_M_pairs 31) [(20, 1464, 0), (0, one, 0), (0, s, 0), v3, v4, v5, v6] [] (zrow h 1465 g, t) = zD (true, q) 1899 zc_M_pairs (zat zc_M_pairs 93) [(20, 1464, 0), (0, one, 0), (0, s, 0), (0, i, 0), (0, r, 0), (0, if VV (prW g) m 0 r = VV (prW g) m 0 s then -1 else fjP (prW g i) (VV (prW g) m 0) r (VV (prW g) m 0 s) k (i + 1), 0), (0, w6, 0)] [] (zrow h 1465 g, t) := by
        have st : zD (true, q) 1899 zc_M_pairs (zat zc_M_pairs 31) [(20, 1464, 0), (0, one, 0), (0, s, 0), v3, v4, v5, v6] [] (zrow h 1465 g, t) = zD (true, q) 1899 zc_M_pairs (zat zc_M_pairs 53) [(20, 1464, 0), (0, one, 0), (0, s, 0), (0, i, 0), (0, r, 0), (0, -1, 0), (0, i + k, 0)] [] (zrow h 1465 g, t) := by
          rw [zb_M_pairs_31, if_neg sne, zb_M_pairs_33, r_lowest s0 (by omega) i0 (by omega) b hz, zK_i, zb_M_pairs_35, zG2 (by decide) (by decide), p2]
          simp (disch := omega) only [Int.reduceAdd, zrow_r, zrow_in, zrow_up, zrow_ne, zupE]
          rw [zb_M_pairs_50, zw_id (z := g 3 - 1) (by omega) (by omega), show g 3 - 1 = i + k by omega]
        rw [st]
        by_cases eq : VV (prW g) m 0 r = VV (prW g) m 0 s
        · rw [if_pos eq]
          refine ⟨i + k, ?_⟩
          rw [zb_M_pairs_53]
          by_cases c : i + (k : Int) ≤ i
          · rw [if_pos c]
          · rw [if_neg c, zb_M_pairs_56, zG2 p0 (by omega)]
            simp (disch := omega) only [Int.reduceAdd, zrow_r, zrow_in, zrow_up, zrow_ne, zupE]
            rw [hB r p0 (by omega), zb_M_pairs_60, zG2 s0 (by omega)]
            simp (disch := omega) only [Int.reduceAdd, zrow_r, zrow_in, zrow_up, zrow_ne, zupE]
            rw [hB s s0 s1, zb_M_pairs_64, if_pos eq]
        · rw [if_neg eq]
          have down : ∀ (c : Nat) (w : Int), c ≤ k → ∃ w6, zD (true, q) 1899 zc_M_pairs (zat zc_M_pairs 53) [(20, 1464, 0), (0, one, 0), (0, s, 0), (0, i, 0), (0, r, 0), (0, w, 0), (0, i + c, 0)] [] (zrow h 1465 g, t) = zD (true, q) 1899 zc_M_pairs (zat zc_M_pairs 93) [(20, 1464, 0), (0, one, 0), (0, s, 0), (0, i, 0), (0, r, 0), (0, if fjP (prW g i) (VV (prW g) m 0) r (VV (prW g) m 0 s) c (i + 1) < i + 1 + c then fjP (prW g i) (VV (prW g) m 0) r (VV (prW g) m 0 s) c (i + 1) else w, 0), (0, w6, 0)] [] (zrow h 1465 g, t) := by
            intro c
            induction c with
            | zero =>
              intro w _
              refine ⟨i + (0 : Nat), ?_⟩
              have e : fjP (prW g i) (VV (prW g) m 0) r (VV (prW g) m 0 s) 0 (i + 1) = i + 1 := rfl
              rw [zb_M_pairs_53, if_pos (by omega), e, if_neg (by omega)]
            | succ c ihc =>
              intro w hc
              have sn := fjP_snoc (W := prW g i) (V := VV (prW g) m 0) (s := r) (M := VV (prW g) m 0 s) c (i + 1)
              have rg := fjP_rng (W := prW g i) (V := VV (prW g) m 0) (s := r) (M := VV (prW g) m 0 s) c (i + 1)
              have step : zD (true, q) 1899 zc_M_pairs (zat zc_M_pairs 53) [(20, 1464, 0), (0, one, 0), (0, s, 0), (0, i, 0), (0, r, 0), (0, w, 0), (0, i + (c + 1 : Nat), 0)] [] (zrow h 1465 g, t) = zD (true, q) 1899 zc_M_pairs (zat zc_M_pairs 53) [(20, 1464, 0), (0, one, 0), (0, s, 0), (0, i, 0), (0, r, 0), (0, if orT r (i + 1 + c) = 1 ∧ prW g i (i + 1 + c) + VV (prW g) m 0 (r - pw (i + 1 + c)) = VV (prW g) m 0 s then i + 1 + c else w, 0), (0, i + c, 0)] [] (zrow h 1465 g, t) := by
                rw [show i + (c + 1 : Nat) = i + 1 + (c : Int) by omega, zb_M_pairs_53, if_neg (by omega), zb_M_pairs_56, zG2 p0 (by omega)]
                simp (disch := omega) only [Int.reduceAdd, zrow_r, zrow_in, zrow_up, zrow_ne, zupE]
                rw [hB r p0 (by omega), zb_M_pairs_60, zG2 s0 (by omega)]
                simp (disch := omega) only [Int.reduceAdd, zrow_r, zrow_in, zrow_up, zrow_ne, zupE]
                rw [hB s s0 s1, zb_M_pairs_64, if_neg eq, zb_M_pairs_65, r_isOf ⟨p0, by omega⟩ ⟨by omega, by omega⟩, zK_i, zb_M_pairs_68]
                by_cases bl : orT r (i + 1 + c) = 1
                · obtain ⟨q0, q1, q2, _⟩ := pw_of p0 (by omega) (show 0 ≤ i + 1 + (c : Int) by omega) (by omega) bl
                  have wr := prW_le (g := g) (m := m) hg i0 (by omega) (show 0 ≤ i + 1 + (c : Int) by omega) (by omega)
                  have v2 := vr (r - pw (i + 1 + c))
                  rw [if_pos bl, if_neg (by decide), zb_M_pairs_69, r_both i0 (by omega) (by omega) (by omega) (hg i i0 (by omega)) (hg _ (by omega) (by omega)), zK_i, zb_M_pairs_73, q2, zG2 q0 (by omega)]
                  simp (disch := omega) only [Int.reduceAdd, zrow_r, zrow_in, zrow_up, zrow_ne, zupE]
                  rw [hB _ q0 (by omega), zb_M_pairs_83, zG2 s0 (by omega), zw_id (z := prW g i (i + 1 + c) + VV (prW g) m 0 (r - pw (i + 1 + c))) (by omega) (by omega)]
                  simp (disch := omega) only [Int.reduceAdd, zrow_r, zrow_in, zrow_up, zrow_ne, zupE]
                  rw [hB s s0 s1, zb_M_pairs_88]
                  by_cases ev : prW g i (i + 1 + c) + VV (prW g) m 0 (r - pw (i + 1 + c)) = VV (prW g) m 0 s
                  · rw [if_neg (fun z => z ev), if_pos ⟨bl, ev⟩, zb_M_pairs_89, zw_id (z := i + 1 + (c : Int) + -1) (by omega) (by omega), show i + 1 + (c : Int) + -1 = i + c by omega]
                  · rw [if_pos ev, if_neg (fun z => ev z.2), zb_M_pairs_91, zw_id (z := i + 1 + (c : Int) + -1) (by omega) (by omega), show i + 1 + (c : Int) + -1 = i + c by omega]
                · rw [if_neg bl, if_pos rfl, if_neg (fun z => bl z.1), zb_M_pairs_91, zw_id (z := i + 1 + (c : Int) + -1) (by omega) (by omega), show i + 1 + (c : Int) + -1 = i + c by omega]
              obtain ⟨w6, r6⟩ := ihc (if orT r (i + 1 + c) = 1 ∧ prW g i (i + 1 + c) + VV (prW g) m 0 (r - pw (i + 1 + c)) = VV (prW g) m 0 s then i + 1 + c else w) (by omega)
              refine ⟨w6, ?_⟩
              rw [step, r6, sn]
              by_cases e1 : fjP (prW g i) (VV (prW g) m 0) r (VV (prW g) m 0 s) c (i + 1) < i + 1 + c
              · rw [if_pos e1, if_pos e1, if_pos (by omega)]
              · rw [if_neg e1, if_neg e1]
                by_cases e2 : orT r (i + 1 + c) = 1 ∧ prW g i (i + 1 + c) + VV (prW g) m 0 (r - pw (i + 1 + c)) = VV (prW g) m 0 s
                · rw [if_pos e2, if_pos e2, if_pos (by omega)]
                · rw [if_neg e2, if_neg e2, if_neg (by omega)]
          obtain ⟨w6, r6⟩ := down k (-1) (Nat.le_refl k)
          rw [if_pos (pk.2 eq)] at r6
          exact ⟨w6, r6⟩
      obtain ⟨w6, hd⟩ := head
      rw [hd, zb_M_pairs_93, pk.1]
      by_cases eq : VV (prW g) m 0 r = VV (prW g) m 0 s
      · rw [if_pos eq, if_pos eq]
        by_cases e1 : i = one
        · rw [if_neg (fun z => z e1), zb_M_pairs_96, VO_idx o0 (by omega) k (i + 1) r P (by omega) (by omega) p0 (by omega) (zr one o0 (by omega)), hP]
        · rw [if_pos e1, zb_M_pairs_98, if_pos (by omega), zb_M_pairs_103, if_neg (fun z => z rfl), zb_M_pairs_106]
          exact ih (i + 1) r P _ _ _ _ (by omega) (by omega) p0 (by omega) zr hP
      · rw [if_neg eq, if_neg eq]
        have rg := fjP_rng (W := prW g i) (V := VV (prW g) m 0) (s := r) (M := VV (prW g) m 0 s) k (i + 1)
        have lt := pk.2 eq
        have bf := (rg.2.2 lt).1
        generalize fjP (prW g i) (VV (prW g) m 0) r (VV (prW g) m 0 s) k (i + 1) = w at *
        obtain ⟨q0, q1, q2, q3⟩ := pw_of p0 (by omega) (show 0 ≤ w by omega) (by omega) bf
        have zw2 : ∀ j, 0 ≤ j → j < i + 1 → orT (r - pw w) j = 0 := fun j j0 j1 => by
          rw [q3 j j0 (by omega), if_neg (by omega)]
          exact zr j j0 j1
        by_cases e1 : i = one
        · rw [if_neg (fun z => z e1), zb_M_pairs_96, VO_idx o0 (by omega) k (i + 1) _ _ (by omega) (by omega) q0 (by omega) (zw2 one o0 (by omega)), zup1_ne (by omega), zup1_eq e1.symm]
        · rw [if_pos e1, zb_M_pairs_98]
          by_cases e2 : w = one
          · rw [if_neg (fun z => z e2), zb_M_pairs_101, VO_idx o0 (by omega) k (i + 1) _ _ (by omega) (by omega) q0 (by omega) (by rw [q3 one o0 (by omega), if_pos e2.symm]), zup1_eq e2.symm]
          · rw [if_pos e2, zb_M_pairs_103, if_pos (by omega), zb_M_pairs_108, q2]
            exact ih (i + 1) (r - pw w) _ _ _ _ _ (by omega) (by omega) q0 (by omega) zw2 (by rw [zup1_ne (fun z => e2 z.symm), zup1_ne (fun z => e1 z.symm)]; exact hP)
    · have un : VO (prW g) (k + 1) i s P = VO (prW g) k (i + 1) s P := if_neg b
      rw [un]
      exact ih (i + 1) s P v3 v4 v5 v6 (by omega) (by omega) s0 s1 (fun j j0 j1 => by
        by_cases e : j = i
        · rw [e]
          rcases orT_01 (s := s) (i := i) with a | a
          · exact a
          · exact absurd a b
        · exact hz j j0 (by omega)) hP
theorem o_pairs {q : Int × (Int → Int)} {N : Int} {f : Int → Int → Int} {t : (Int → Int) × Nat × Nat × Nat × (Int → Int → Bool)} {x : Int} (hR : ZR N f f) : zOw q N f t 257 [(19, 0, 0), (0, x, 0), (31, 1478, 1)] 262 [(20, 1464, 0), (0, x, 0)] := by
  have h4 := ZR_4 hR
  by_cases hx : x = -1 ∨ (0 ≤ x ∧ x < f 1465 3)
  · generalize hmm : (f 1465 3).toNat = m
    have hm : f 1465 3 = m := by omega
    have m4 : m ≤ 4 := by omega
    have hg : ∀ l, 0 ≤ l → l < (m : Int) → 0 ≤ f 1465 (10 + 265 * l + 1) ∧ f 1465 (10 + 265 * l + 1) ≤ 100 := fun l l0 l1 => (ZR_line hR l0 (by omega)).2.1.2.1
    have i16 := gIn_16 (g := f 1465) (s := 2) m 0 0 (Int.le_refl 0) (by omega) (by decide)
    have bit := fun j (j0 : 0 ≤ j) (j5 : j < 5) => gIn_bit (g := f 1465) (s := 2) (j := j) j0 j5 m 0 0 (Int.le_refl 0) (by omega) (Int.le_refl 0) (by decide)
    have o00 : ∀ j : Int, 0 ≤ j → j < 5 → orT 0 j = 0 := fun j j0 j5 => by
      rcases (by omega : j = 0 ∨ j = 1 ∨ j = 2 ∨ j = 3 ∨ j = 4) with rfl | rfl | rfl | rfl | rfl <;> decide
    generalize hs : gIn (f 1465) 2 m 0 0 = s at *
    have sM : s < orM m := by
      have e := Int.toNat_of_nonneg i16.1
      have := orM_up_dec m (by omega) s.toNat (by omega) (fun j j5 jm => by
        rw [e, bit j (by omega) (by omega), if_neg (by omega)]
        exact o00 j (by omega) (by omega))
      rw [e] at this
      exact this
    have vr := VV_pr (g := f 1465) (m := m) hg (k := m) (i := 0) (s := s) (Int.le_refl 0) (by omega)
    generalize hF : zup (zfill f 321 (-1) 4) 317 6 (-1) = F
    have frF : ∀ o k, (o ≠ 317 ∨ k ≠ 6) → o ≠ 321 → F o k = f o k := fun o k a b => by rw [← hF, zup_nka (by omega), zfill_na b]
    obtain ⟨f2, r2, a2, b2, fr2⟩ := c_pairLine (q := q) (d := 1895 - m) (t := t) (S := fun l => f 1465 (10 + 265 * l + 0)) (g := f 1465) (m := m) m4 hg m 0 s 0 (fun _ => -1) F (Int.le_refl 0) (by omega) i16.1 i16.2 (Int.le_refl 0) (by decide) (by rw [frF _ _ (by omega) (by decide)]; omega) (fun l l0 l1 => by
      have hC := (ZR_line hR l0 (by omega)).1
      rw [frF _ _ (by omega) (by omega), frF _ _ (by omega) (by omega)]
      exact ⟨zc_f4 hC, zc_f5 hC⟩) (fun j j0 j1 => by rw [← hF, zup_na (by decide), zfill_in rfl j0 j1]) (fun j j0 j1 => by
      rw [bit j j0 (by omega)]
      constructor
      · intro z
        by_cases c : 0 ≤ j ∧ j < 0 + (m : Int) ∧ f 1465 (10 + 265 * j + 0) = 2
        · exact ⟨rfl, c.2.2⟩
        · rw [if_neg c, o00 j j0 (by omega)] at z
          omega
      · intro z
        rw [if_pos ⟨j0, by omega, z.2⟩])
    have F6 : F 317 6 = -1 := by rw [← hF, zupE rfl rfl]
    rw [F6, VO_1, Int.zero_add, if_pos (by omega)] at a2
    have b2 := fun j (j0 : 0 ≤ j) (j1 : j < 4) => b2 j j0 j1
    rw [show 1895 - m + m + 1 = 1896 by omega] at r2
    have hxp : zM (true, q) 1897 254 [(17, 317, 0), (18, 23, 0)] (f, t) = some ((0, VV (prW (f 1465)) m 0 s, 0), (f2, t)) := by
      rw [ze_Way_pairLines, zb_Way_pairLines_0, s_clearRow (by decide) (by decide), zK_v, zb_Way_pairLines_4]
      show zK _ _ _ _ _ _ (zM (true, q) 1896 253 _ (zup (zfill f 321 (-1) 4) 317 6 (-1), t)) = _
      rw [hF, r2, zK_v, zb_Way_pairLines_12]
      show some ((0, f2 317 6, 0), (f2, t)) = _
      rw [a2]
    have frf : ∀ o k, (o < 317 ∨ 323 ≤ o) → f2 o k = f o k := fun o k a => (fr2 o k (by omega) (by omega)).trans (frF o k (by omega) (by omega))
    have hx1 : zM (true, q) 1898 256 [(19, 0, 0), (0, x, 0)] (f, t) = some ((0, if x = -1 then VV (prW (f 1465)) m 0 s else (VO (prW (f 1465)) m 0 s (fun _ => -1)).2 x, 0), (f2, t)) := by
      have p12 : zM (true, q) 1898 256 [(19, 0, 0), (0, x, 0)] (f, t) = zD (true, q) 1898 zc_X_pairs (zat zc_X_pairs 12) [(19, 0, 0), (0, x, 0), (2, 0, 0)] [(0, VV (prW (f 1465)) m 0 s, 0)] (f2, t) := by
        rw [ze_X_pairs, zb_X_pairs_0]
        by_cases c : x = -1
        · rw [if_pos c, zb_X_pairs_7]
          show zK _ _ _ _ _ _ (zM (true, q) 1897 254 [(17, 317, 0), (18, 23, 0)] (f, t)) = _
          rw [hxp, zK_i]
        · rw [if_neg c, zb_X_pairs_3, zLT (d := 1896) hR (by omega) (by omega), zK_13, zb_X_pairs_6]
          show zK _ _ _ _ _ _ (zM (true, q) 1897 254 [(17, 317, 0), (18, 23, 0)] (f, t)) = _
          rw [hxp, zK_i]
      rw [p12, zb_X_pairs_12]
      by_cases c : x = -1
      · rw [if_neg (fun z => z c), if_pos c, zb_X_pairs_16]
      · rw [if_pos c, if_neg c, zb_X_pairs_18, ze_Way_partnerOf, zb_Way_partnerOf_0, s_at (by omega) (by omega), zK_i]
        show zK _ _ _ _ _ _ (zD (true, q) 1897 zc_Way_partnerOf (zat zc_Way_partnerOf 4) _ [(0, f2 322 x, 0)] (f2, t)) = _
        rw [b2 x (by omega) (by omega), F6, VO_1, if_pos (by omega), zb_Way_partnerOf_4, zK_i, zb_X_pairs_22]
    have hk := k_pairs_v hx1
    generalize hv : (if x = -1 then VV (prW (f 1465)) m 0 s else (VO (prW (f 1465)) m 0 s (fun _ => -1)).2 x) = v at hk
    have f15 : zup f2 1478 0 v 1465 = f 1465 := funext fun k => (zup_na (by decide)).trans (frf _ _ (by omega))
    obtain ⟨h2, y2, B2, fr3⟩ := r_allBest (q := q) (d := 1895) (t := t) (h := zup (zup f2 1478 0 v) 1464 0 0) (g := f 1465) (m := m) hm m4 hg
    have hm2 : zM (true, q) 1899 262 [(20, 1464, 0), (0, x, 0)] (zup f2 1478 0 v, t) = some ((0, v, 0), (zrow h2 1465 (f 1465), t)) := by
      have p17 : zM (true, q) 1899 262 [(20, 1464, 0), (0, x, 0)] (zup f2 1478 0 v, t) = zD (true, q) 1899 zc_M_pairs (zat zc_M_pairs 22) [(20, 1464, 0), (0, x, 0), (2, 0, 0), (2, 0, 0), (2, 0, 0), (2, 0, 0), (2, 0, 0)] [(0, s, 0)] (zrow h2 1465 (f 1465), t) := by
        rw [show zup f2 1478 0 v = zrow (zup f2 1478 0 v) 1465 (f 1465) by rw [← f15, zrow_id], ze_M_pairs, zb_M_pairs_0]
        have tail : zD (true, q) 1899 zc_M_pairs (zat zc_M_pairs 10) [(20, 1464, 0), (0, x, 0), (2, 0, 0), (2, 0, 0), (2, 0, 0), (2, 0, 0), (2, 0, 0)] [(20, 1464, 0)] (zrow (zup f2 1478 0 v) 1465 (f 1465), t) = zD (true, q) 1899 zc_M_pairs (zat zc_M_pairs 22) [(20, 1464, 0), (0, x, 0), (2, 0, 0), (2, 0, 0), (2, 0, 0), (2, 0, 0), (2, 0, 0)] [(0, s, 0)] (zrow h2 1465 (f 1465), t) := by
          rw [zb_M_pairs_10]
          simp (disch := omega) only [Int.reduceAdd, zrow_r, zrow_in, zrow_up, zrow_ne, zupE]
          rw [if_pos (by decide), zb_M_pairs_17, y2, zK_v, zb_M_pairs_19, r_inState h4.2.1 h4.2.2, zK_i, hmm, hs]
        by_cases c : x = -1
        · rw [if_pos c]
          exact tail
        · rw [if_neg c, zb_M_pairs_4, r_isLineT (by omega) (by omega) h4.2.2, zK_i, zb_M_pairs_7, if_pos (by decide)]
          exact tail
      rw [p17, zb_M_pairs_22, ← hv]
      by_cases c : x = -1
      · rw [if_neg (fun z => z c), if_pos c, zb_M_pairs_26, zG2 i16.1 i16.2]
        simp (disch := omega) only [Int.reduceAdd, zrow_r, zrow_in, zrow_up, zrow_ne, zupE]
        rw [B2 s i16.1 sM, zb_M_pairs_30]
      · rw [if_pos c, if_neg c]
        exact r_partner (h := h2) hm m4 hg (by omega) (by omega) B2 m 0 s (fun _ => -1) _ _ _ _ (Int.le_refl 0) (by omega) i16.1 sM (fun j j0 j1 => by omega) rfl
    have hz : ∀ o k, o ≠ 1465 → o ≠ 1476 → zrow h2 1465 (f 1465) o k = zup (zup f2 1478 0 v) 1464 0 0 o k := fun o k a b => by
      rw [zrow_ne a, fr3 o k b]
    refine zOw_pure (f1 := zup f2 1478 0 v) hR hk (fun o k a => (zup_na (by omega)).trans (frf o k (by omega))) (fun o k a b => (zup_na b).trans (frf o k (by omega))) zTt_refl hm2 (fun o k a => ?_) ⟨fun o k a => ?_, zB3_fr (fun k k0 k1 => ?_)⟩ ?_ (fun _ => zupE rfl rfl)
    · rw [hz o k (by omega) (by omega), zup_na (by omega)]
    · by_cases c : o = 1465
      · rw [c, zrow_r, f15]
      · rw [hz o k c (by omega), zup_nka (by omega)]
    · rw [hz _ _ (by decide) (by decide), zup_nk (by omega)]
    · rw [hz _ _ (by decide) (by decide), zupE rfl rfl]
  · have hx1 : zM (true, q) 1898 256 [(19, 0, 0), (0, x, 0)] (f, t) = some ((102, 0, 0), (f, zThr t)) := by
      rw [ze_X_pairs, zb_X_pairs_0, if_neg (by omega), zb_X_pairs_3, zLF_ hR (by omega)]
      rfl
    refine zOw_t (v := 0) rfl hR (by decide) (k_pairs_102 hx1) (fun h => ?_)
    rw [ze_M_pairs, zb_M_pairs_0, if_neg (by omega), zb_M_pairs_4, r_isLineF (by omega) h4.2.1 h4.2.2, zK_i, zb_M_pairs_7, if_neg (fun z => z rfl), zb_M_pairs_8]
    simp (disch := omega) only [Int.reduceAdd, zrow_r, zrow_in, zrow_up, zrow_ne, zupE]
    rw [if_neg (by decide), zb_M_pairs_15]

