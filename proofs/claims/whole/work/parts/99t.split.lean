/-! ## units split -/
theorem zcnt_rng {S : Int → Int} : ∀ (j : Nat) (i : Int), 0 ≤ zcnt S j i ∧ zcnt S j i ≤ j := by
  intro j
  induction j with
  | zero => intro i; exact ⟨Int.le_refl 0, Int.le_refl 0⟩
  | succ j ih =>
    intro i
    have := ih (i + 1)
    show 0 ≤ (if S i = 2 then 1 else 0) + zcnt S j (i + 1) ∧ (if S i = 2 then 1 else 0) + zcnt S j (i + 1) ≤ _
    split <;> omega
theorem zcnt_ex {S : Int → Int} : ∀ (j : Nat) (i : Int), zcnt S j i ≠ 0 → ∃ l, i ≤ l ∧ l < i + j ∧ S l = 2 := by
  intro j
  induction j with
  | zero => intro i h; exact absurd rfl h
  | succ j ih =>
    intro i h
    by_cases c : S i = 2
    · exact ⟨i, by omega, by omega, c⟩
    · have e : zcnt S (j + 1) i = zcnt S j (i + 1) := by
        show (if S i = 2 then 1 else 0) + zcnt S j (i + 1) = _
        rw [if_neg c, Int.zero_add]
      rw [e] at h
      obtain ⟨l, h1, h2, h3⟩ := ih (i + 1) h
      exact ⟨l, by omega, by omega, h3⟩
theorem zsIn_0 {S : Int → Int} : ∀ (j : Nat) (i : Int), zsIn S (fun _ => 0) j i = 0 := by
  intro j
  induction j with
  | zero => intro i; rfl
  | succ j ih =>
    intro i
    show (if S i = 2 then (0 : Int) else 0) + zsIn S (fun _ => 0) j (i + 1) = 0
    rw [ih, ite_self]
    rfl
theorem LG_eq {S A : Int → Int} {m r : Nat} {k l : Int} {R : Int → Int} {due : Int} (hd : due < 2000000000) (h : LG S A m (r + 1) k R = due) (l0 : 0 ≤ l) (l1 : l < m) (s : S l = 2) : due ≤ LG S A m r (k + 1) (zup1 R l (R l + A k)) := by
  rcases Int.lt_or_le (LG S A m r (k + 1) (zup1 R l (R l + A k))) due with c | c
  · have := (LG_s (S := S) (A := A) (m := m) (r := r) (k := k) (R := R) (M := LG S A m r (k + 1) (zup1 R l (R l + A k))) (by omega)).mpr ⟨l, l0, l1, s, Int.le_refl _⟩
    omega
  · exact c
theorem due_rng {g : Int → Int} {S : Int → Int} {m : Nat} {x : Int × (Int → Int) × Int} (hx : gaP x) (m4 : m ≤ 4) (hc : zcnt S m 0 ≠ 0) : 0 ≤ LG S x.2.1 m x.1.toNat 0 (fun _ => 0) ∧ LG S x.2.1 m x.1.toNat 0 (fun _ => 0) ≤ x.2.2 ∧ x.2.2 ≤ 72 ∧ 0 ≤ x.2.2 ∧ (x.2.2 + zcnt S m 0 - 1) / zcnt S m 0 ≤ LG S x.2.1 m x.1.toNat 0 (fun _ => 0) ∧ 0 ≤ (x.2.2 + zcnt S m 0 - 1) / zcnt S m 0 := by
  obtain ⟨a, b, c, e⟩ := hx
  have hs := zsum_rng (g := x.2.1) (lo := 0) (hi := 9) x.1.toNat 0 (fun k k0 k1 => by have := c k k0 (by omega); omega)
  have hcn := zcnt_rng (S := S) m 0
  obtain ⟨o, o0, o1, o2⟩ := zcnt_ex m 0 hc
  have up := LG_up (S := S) (A := x.2.1) (m := m) (M := x.2.2) (o := o) (by omega) (by omega) ⟨o0, by omega, o2⟩ x.1.toNat 0 (fun _ => 0) (fun j j0 j1 => by have := c j j0 (by omega); omega) (fun l _ _ => by show 0 + _ ≤ _; omega)
  have ge := LG_ge (S := S) (A := x.2.1) (m := m) (M := LG S x.2.1 m x.1.toNat 0 (fun _ => 0)) (by omega) x.1.toNat 0 (fun _ => 0) (fun j j0 j1 => by have := c j j0 (by omega); omega) (Int.le_refl _)
  have al := LG_all (S := S) (A := x.2.1) (m := m) (M := LG S x.2.1 m x.1.toNat 0 (fun _ => 0)) (by omega) x.1.toNat 0 (fun _ => 0) (Int.le_refl _)
  rw [zsIn_0, ← e] at al
  generalize LG S x.2.1 m x.1.toNat 0 (fun _ => 0) = due at *
  generalize zcnt S m 0 = n at *
  refine ⟨ge.1, up, by omega, by omega, ?_⟩
  rcases (by omega : n = 1 ∨ n = 2 ∨ n = 3 ∨ n = 4) with rfl | rfl | rfl | rfl <;> omega
theorem c_split {q : Int × (Int → Int)} {N : Int} {f : Int → Int → Int} {t : (Int → Int) × Nat × Nat × Nat × (Int → Int → Bool)} {S A : Int → Int} {m : Nat} {n : Int} (hR : ZR N f f) (hS : S = fun l => f 1465 (10 + 265 * l + 0)) (hm : m = (f 1465 3).toNat) (hn : n = (gaO (f 1465) (f 1465 3).toNat 0 (0, f 318, 0)).1) (hA : A = (gaO (f 1465) (f 1465 3).toNat 0 (0, f 318, 0)).2.1) : ∃ f2, zM (true, q) 1898 221 [(17, 317, 0), (18, 23, 0)] (f, t) = some ((0, if n = 0 then 0 else if zcnt S m 0 = 0 then -1 else LG S A m n.toNat 0 (fun _ => 0), 0), (f2, t)) ∧ (∀ o k, (o < 317 ∨ 321 ≤ o) → f2 o k = f o k) ∧ f2 317 5 = n ∧ (n ≠ 0 → zcnt S m 0 ≠ 0 → ∀ j, 0 ≤ j → j < n → f2 319 j = chP S A m (LG S A m n.toNat 0 (fun _ => 0)) n.toNat 0 (fun _ => 0) j) ∧ (zcnt S m 0 = 0 → ∀ j, 0 ≤ j → j < 8 → f2 319 j = -1) := by
  have h4 := ZR_4 hR
  have hV : ∀ i, 0 ≤ i → i < f 1465 3 → rLR (f 1465) (10 + 265 * i) ∧ rLL (f 1465) (10 + 265 * i) := fun i i0 i1 => ⟨(ZR_line hR i0 i1).2.1, (ZR_line hR i0 i1).2.2.1⟩
  have hx : gaP (gaO (f 1465) (f 1465 3).toNat 0 (0, f 318, 0)) := gaP_O hV _ 0 _ (Int.le_refl 0) (by omega) ⟨Int.le_refl 0, (show (0 : Int) ≤ 8 by decide), fun j j0 j1 => absurd j1 (by show ¬ j < 0; omega), rfl⟩
  obtain ⟨f1, r1, fr1, s1, a1⟩ := c_gather (q := q) (d := 1896) (t := t) hR
  have dr : zcnt S m 0 ≠ 0 → _ := due_rng (g := f 1465) (S := S) (m := m) hx (by omega)
  generalize gaO (f 1465) (f 1465 3).toNat 0 (0, f 318, 0) = x at *
  rw [← hn] at s1
  rw [← hA] at a1
  rw [← hn, ← hA] at dr
  have n0 := hx.1
  have n8 := hx.2.1
  have hA9 := hx.2.2.1
  rw [← hn] at n0 n8 hA9
  rw [← hA] at hA9
  generalize hF : zfill (zfill f1 319 (-1) 8) 320 0 4 = F
  have frF : ∀ o k, o ≠ 319 → o ≠ 320 → F o k = f1 o k := fun o k a b => by rw [← hF, zfill_na b, zfill_na a]
  have frF2 : ∀ o k, (o < 317 ∨ 321 ≤ o) → F o k = f o k := fun o k a => (frF o k (by omega) (by omega)).trans (fr1 o k (by omega) (by omega))
  have F5 : F 317 5 = n := (frF _ _ (by decide) (by decide)).trans s1
  have F8 : ∀ j, F 318 j = A j := fun j => (frF _ _ (by decide) (by decide)).trans (congrFun a1 j)
  have F9 : ∀ j, 0 ≤ j → j < 8 → F 319 j = -1 := fun j j0 j1 => by rw [← hF, zfill_na (by decide), zfill_in rfl j0 j1]
  have F20 : ∀ j, 0 ≤ j → j < 4 → F 320 j = 0 := fun j j0 j1 => by rw [← hF, zfill_in rfl j0 j1]
  have F4 : F 23 4 = f 1465 3 := (frF2 _ _ (by omega)).trans h4.1
  have FL : zWL F 23 (f 1465) := zWL_c h4.2.2 (fun o k o0 o1 => frF2 o k (by omega)) hR.2.1.2.1
  have hcn := gIn_cnt (g := f 1465) (m := m) (by omega)
  have hcr := zcnt_rng (S := S) m 0
  rw [← hS] at hcn
  have run : zM (true, q) 1898 221 [(17, 317, 0), (18, 23, 0)] (f, t) = zD (true, q) 1898 zc_Way_splitUnits (zat zc_Way_splitUnits 16) [(17, 317, 0), (18, 23, 0), (0, x.2.2, 0), (2, 0, 0), (2, 0, 0)] [(0, zcnt S m 0, 0)] (F, t) := by
    rw [ze_Way_splitUnits, zb_Way_splitUnits_0, r1, zK_i, zb_Way_splitUnits_3, s_clearRow (by decide) (by decide), zK_v, zb_Way_splitUnits_8, s_clearRow (by decide) (by decide), zK_v]
    show zD (true, q) 1898 zc_Way_splitUnits (zat zc_Way_splitUnits 12) _ _ (zfill (zfill f1 319 (-1) 8) 320 0 4, t) = _
    rw [hF, zb_Way_splitUnits_12, c_inState (σ := (F, t)) F4 h4.2.1 h4.2.2 FL, zK_i, zb_Way_splitUnits_15, c_bits, zK_i, ← hm, hcn.1]
  rw [run, zb_Way_splitUnits_16]
  show ∃ f2, (if F 317 5 = 0 then _ else _) = _ ∧ _
  rw [F5]
  by_cases hn0 : n = 0
  · rw [if_pos hn0, if_pos hn0, zb_Way_splitUnits_22]
    show ∃ f2, (if F 317 5 ≠ 0 then _ else _) = _ ∧ _
    rw [F5, if_neg (fun z => z hn0), zb_Way_splitUnits_25]
    exact ⟨F, rfl, frF2, F5, fun z => absurd hn0 z, fun _ => F9⟩
  · rw [if_neg hn0, if_neg hn0, zb_Way_splitUnits_20]
    by_cases hc : zcnt S m 0 = 0
    · rw [if_neg (by omega), if_pos hc, zb_Way_splitUnits_22]
      show ∃ f2, (if F 317 5 ≠ 0 then _ else _) = _ ∧ _
      rw [F5, if_pos hn0, zb_Way_splitUnits_27]
      exact ⟨F, rfl, frF2, F5, fun _ z => absurd hc z, fun _ => F9⟩
    · obtain ⟨d1, d2, d3, d4, d5, d6⟩ := dr hc
      have hlf : ∀ l, 0 ≤ l → l < (m : Int) → F (46 + 18 * l) 4 = S l := fun l l0 l1 => by
        rw [frF2 _ _ (by omega), hS]
        exact zc_f4 (ZR_line hR l0 (by omega)).1
      have put := fun (M : Int) (M0 : 0 ≤ M) (hM : M < 2000000000) => c_putWays (q := q) (d := 1896 - n.toNat) (t := t) (S := S) (A := A) (m := m) (n := n) (M := M) (by omega) n8 M0 hM hA9 n.toNat 0 (fun _ => 0) F (Int.le_refl 0) (by omega) F5 (by rw [F4]; omega) (fun l l0 l1 => ⟨hlf l l0 l1, F20 l l0 (by omega), Int.le_refl 0, Int.le_refl 0, M0⟩) (fun j j0 j1 => F8 j) (fun j j0 j1 => F9 j j0 (by omega))
      rw [show 1896 - n.toNat + n.toNat + 1 = 1897 by omega] at put
      generalize hdue : LG S A m n.toNat 0 (fun _ => 0) = due at *
      have loop : ∀ (j : Nat) (M : Int), 0 ≤ M → M + j = due → ∃ F2, zD (true, q) 1898 zc_Way_splitUnits (zat zc_Way_splitUnits 37) [(17, 317, 0), (18, 23, 0), (0, x.2.2, 0), (0, zcnt S m 0, 0), (0, M, 0)] [] (F, t) = some ((0, due, 0), (F2, t)) ∧ (∀ o k, o ≠ 319 → o ≠ 320 → F2 o k = F o k) ∧ (∀ j, 0 ≤ j → j < n → F2 319 j = chP S A m due n.toNat 0 (fun _ => 0) j) := by
        intro j
        induction j with
        | zero =>
          intro M M0 hj
          have e : M = due := by omega
          subst e
          obtain ⟨F2, r2, fr2, ch2, _⟩ := (put M M0 (by omega)).1 (by omega)
          refine ⟨F2, ?_, fr2, ch2⟩
          rw [zb_Way_splitUnits_37, if_neg (by omega), zb_Way_splitUnits_40, r2, zK_i, zb_Way_splitUnits_45, if_neg (by decide), zb_Way_splitUnits_46]
        | succ j ih =>
          intro M M0 hj
          obtain ⟨F2, r2, h2⟩ := ih (M + 1) (by omega) (by omega)
          refine ⟨F2, ?_, h2⟩
          rw [zb_Way_splitUnits_37, if_neg (by omega), zb_Way_splitUnits_40, (put M M0 (by omega)).2 (by omega), zK_i, zb_Way_splitUnits_45, if_pos rfl, zb_Way_splitUnits_48, zw_id (z := M + 1) (by omega) (by omega)]
          exact r2
      obtain ⟨F2, r2, fr2, ch2⟩ := loop (due - (x.2.2 + zcnt S m 0 - 1) / zcnt S m 0).toNat ((x.2.2 + zcnt S m 0 - 1) / zcnt S m 0) d6 (by omega)
      refine ⟨F2, ?_, fun o k a => (fr2 o k (by omega) (by omega)).trans (frF2 o k a), (fr2 _ _ (by decide) (by decide)).trans F5, fun _ _ => ch2, fun z => absurd z hc⟩
      rw [if_pos (by omega), if_neg hc, zb_Way_splitUnits_29, zG1 (by omega), zw_id (z := x.2.2 + zcnt S m 0) (by omega) (by omega), zw_id (z := x.2.2 + zcnt S m 0 - 1) (by omega) (by omega), show zdiv (x.2.2 + zcnt S m 0 - 1) (zcnt S m 0) = (x.2.2 + zcnt S m 0 - 1) / zcnt S m 0 by unfold zdiv; rw [Int.tdiv_eq_ediv_of_nonneg (by omega), zw_id (by omega) (by omega)], zb_Way_splitUnits_36]
      exact r2
/-! ### the reference puts units -/
theorem r_putK {q : Int × (Int → Int)} {t : (Int → Int) × Nat × Nat × Nat × (Int → Int → Bool)} {g A : Int → Int} {m : Nat} {n x due : Int} (hm : g 3 = m) (m4 : m ≤ 4) (n8 : n ≤ 8) (hA : ∀ j, 0 ≤ j → j < n → 1 ≤ A j ∧ A j ≤ 9) (hd : due < 2000000000) (hx0 : 0 ≤ x) (hxn : x < n) : ∀ (c : Nat) (r : Nat) (k : Int) (R : Int → Int) (v5 : zV) (h : Int → Int → Int), 0 ≤ k → k + r = n → k + c = x → (∀ l, 0 ≤ l → l < (m : Int) → h 1477 l = R l ∧ 0 ≤ R l ∧ R l ≤ 9 * k) → (∀ j, 0 ≤ j → j < n → h 1474 j = A j) → LG (fun l => g (10 + 265 * l + 0)) A m r k R = due → ∃ h2, zD (true, q) 1899 zc_M_split (zat zc_M_split 55) [(20, 1464, 0), (0, x, 0), (0, n, 0), (0, due, 0), (0, k, 0), v5] [] (zrow h 1465 g, t) = some ((0, chP (fun l => g (10 + 265 * l + 0)) A m due r k R x, 0), (zrow h2 1465 g, t)) ∧ ∀ o k, o ≠ 1475 → o ≠ 1477 → h2 o k = h o k := by
  generalize hS : (fun l => g (10 + 265 * l + 0)) = S
  have hS2 : ∀ l, g (10 + 265 * l + 0) = S l := fun l => by rw [← hS]
  intro c
  have one : ∀ (r : Nat) (k : Int) (R : Int → Int) (v5 : zV) (h : Int → Int → Int), 0 ≤ k → k + (r + 1 : Nat) = n → k ≤ x → (∀ l, 0 ≤ l → l < (m : Int) → h 1477 l = R l ∧ 0 ≤ R l ∧ R l ≤ 9 * k) → (∀ j, 0 ≤ j → j < n → h 1474 j = A j) → LG S A m (r + 1) k R = due → ∃ w5, zD (true, q) 1899 zc_M_split (zat zc_M_split 55) [(20, 1464, 0), (0, x, 0), (0, n, 0), (0, due, 0), (0, k, 0), v5] [] (zrow h 1465 g, t) = zD (true, q) 1899 zc_M_split (zat zc_M_split 55) [(20, 1464, 0), (0, x, 0), (0, n, 0), (0, due, 0), (0, k + 1, 0), w5] [] (zrow (zup (zup h 1477 (fiP S A m r k R due m 0) (R (fiP S A m r k R due m 0) + A k)) 1475 k (fiP S A m r k R due m 0)) 1465 g, t) := by
    intro r k R v5 h k0 hk hkx hl ha hL
    have hak := hA k k0 (by omega)
    have fk := ha k k0 (by omega)
    have inner : ∀ (j : Nat) (i : Int), 0 ≤ i → i + j = m → fiP S A m r k R due j i < m → ∃ w5, zD (true, q) 1899 zc_M_split (zat zc_M_split 65) [(20, 1464, 0), (0, x, 0), (0, n, 0), (0, due, 0), (0, k, 0), (0, i, 0)] [] (zrow (zup h 1475 k (-1)) 1465 g, t) = zD (true, q) 1899 zc_M_split (zat zc_M_split 55) [(20, 1464, 0), (0, x, 0), (0, n, 0), (0, due, 0), (0, k + 1, 0), w5] [] (zrow (zup (zup h 1477 (fiP S A m r k R due j i) (R (fiP S A m r k R due j i) + A k)) 1475 k (fiP S A m r k R due j i)) 1465 g, t) := by
      intro j
      induction j with
      | zero =>
        intro i i0 hi hf
        have e : fiP S A m r k R due 0 i = i := rfl
        omega
      | succ j ih =>
        intro i i0 hi hf
        obtain ⟨l1, l2, l3⟩ := hl i i0 (by omega)
        have un : fiP S A m r k R due (j + 1) i = if S i = 2 ∧ LG S A m r (k + 1) (zup1 R i (R i + A k)) ≤ due then i else fiP S A m r k R due j (i + 1) := rfl
        have start : zD (true, q) 1899 zc_M_split (zat zc_M_split 65) [(20, 1464, 0), (0, x, 0), (0, n, 0), (0, due, 0), (0, k, 0), (0, i, 0)] [] (zrow (zup h 1475 k (-1)) 1465 g, t) = (if S i = 2 then zD (true, q) 1899 zc_M_split (zat zc_M_split 84) [(20, 1464, 0), (0, x, 0), (0, n, 0), (0, due, 0), (0, k, 0), (0, i, 0)] [] (zrow (zup h 1475 k (-1)) 1465 g, t) else zD (true, q) 1899 zc_M_split (zat zc_M_split 65) [(20, 1464, 0), (0, x, 0), (0, n, 0), (0, due, 0), (0, k, 0), (0, i + 1, 0)] [] (zrow (zup h 1475 k (-1)) 1465 g, t)) := by
          rw [zb_M_split_65]
          simp (disch := omega) only [Int.reduceAdd, zrow_r, zrow_in, zrow_up, zrow_ne, zupE]
          rw [zG2 (by decide) (by decide), zb_M_split_70, if_neg (by omega), zb_M_split_71, zG2 k0 (by omega)]
          simp (disch := omega) only [Int.reduceAdd, zrow_r, zrow_in, zrow_up, zrow_ne, zupE]
          rw [zb_M_split_75, if_neg (by decide), zb_M_split_77, r_of i0 (by omega) (by decide) (by decide), zK_i, hS2, zb_M_split_81]
          by_cases s : S i = 2
          · rw [if_pos s, if_pos s]
          · rw [if_neg s, if_neg s, zb_M_split_83, zw_id (z := i + 1) (by omega) (by omega)]
        rw [start]
        by_cases s : S i = 2
        · have hre := r_longest (q := q) (d := 1897 - r) (t := t) (g := g) (A := A) (m := m) (n := n) hm m4 n8 hA r (k + 1) (zup1 R i (R i + A k)) (zup (zup h 1475 k (-1)) 1477 i (R i + A k)) (by omega) (by omega) (fun l l0 l1' => by
            obtain ⟨a1, a2, a3⟩ := hl l l0 l1'
            by_cases c : l = i
            · rw [c, zupE rfl rfl, zup1_eq rfl]
              omega
            · rw [zup_nk c, zup_na (by decide), zup1_ne c]
              omega) (fun j j0 j1 => by rw [zup_na (by decide), zup_na (by decide)]; exact ha j j0 j1)
          rw [hS, show 1897 - r + r + 1 = 1898 by omega] at hre
          have ge := LG_eq (l := i) hd hL i0 (by omega) s
          generalize hv : LG S A m r (k + 1) (zup1 R i (R i + A k)) = v at hre un ge
          have mid : zD (true, q) 1899 zc_M_split (zat zc_M_split 84) [(20, 1464, 0), (0, x, 0), (0, n, 0), (0, due, 0), (0, k, 0), (0, i, 0)] [] (zrow (zup h 1475 k (-1)) 1465 g, t) = (if v ≠ due then zD (true, q) 1899 zc_M_split (zat zc_M_split 109) [(20, 1464, 0), (0, x, 0), (0, n, 0), (0, due, 0), (0, k, 0), (0, i, 0)] [] (zrow (zup (zup h 1475 k (-1)) 1477 i (R i + A k)) 1465 g, t) else zD (true, q) 1899 zc_M_split (zat zc_M_split 103) [(20, 1464, 0), (0, x, 0), (0, n, 0), (0, due, 0), (0, k, 0), (0, i, 0)] [] (zrow (zup (zup h 1475 k (-1)) 1477 i (R i + A k)) 1465 g, t)) := by
            rw [zb_M_split_84, zG2 i0 (by omega)]
            simp (disch := omega) only [Int.reduceAdd, zrow_r, zrow_in, zrow_up, zrow_ne, zupE, zup_na]
            rw [l1, zb_M_split_89, zG2 k0 (by omega)]
            simp (disch := omega) only [Int.reduceAdd, zrow_r, zrow_in, zrow_up, zrow_ne, zupE, zup_na]
            rw [fk, zb_M_split_93, zG2 i0 (by omega), zw_id (z := R i + A k) (by omega) (by omega)]
            simp (disch := omega) only [Int.reduceAdd, zrow_r, zrow_in, zrow_up, zrow_ne, zupE]
            rw [zb_M_split_95, zw_id (z := k + 1) (by omega) (by omega), hre, zK_i, zb_M_split_101]
          rw [if_pos s, mid]
          by_cases hvd : v ≤ due
          · rw [if_pos ⟨s, hvd⟩] at un
            rw [un, if_neg (by omega), zb_M_split_103, zG2 k0 (by omega)]
            simp (disch := omega) only [Int.reduceAdd, zrow_r, zrow_in, zrow_up, zrow_ne, zupE]
            have e : zup (zup (zup h 1475 k (-1)) 1477 i (R i + A k)) 1475 k i = zup (zup h 1477 i (R i + A k)) 1475 k i := by
              funext o j
              by_cases c1 : o = 1475 ∧ j = k
              · rw [zupE c1.1 c1.2, zupE c1.1 c1.2]
              · rw [zup_nka (by omega), zup_nka (k := k) (by omega)]
                by_cases c2 : o = 1477 ∧ j = i
                · rw [zupE c2.1 c2.2, zupE c2.1 c2.2]
                · rw [zup_nka (by omega), zup_nka (by omega), zup_nka (by omega)]
            refine ⟨(0, i + 1, 0), ?_⟩
            rw [e, zb_M_split_108, zw_id (z := i + 1) (by omega) (by omega), zb_M_split_65]
            simp (disch := omega) only [Int.reduceAdd, zrow_r, zrow_in, zrow_up, zrow_ne, zupE]
            rw [zG2 (by decide) (by decide), zb_M_split_70]
            by_cases cm : g 3 ≤ i + 1
            · rw [if_pos cm, zb_M_split_122, zw_id (z := k + 1) (by omega) (by omega)]
            · rw [if_neg cm, zb_M_split_71, zG2 k0 (by omega)]
              simp (disch := omega) only [Int.reduceAdd, zrow_r, zrow_in, zrow_up, zrow_ne, zupE]
              rw [zb_M_split_75, if_pos (by omega), zb_M_split_122, zw_id (z := k + 1) (by omega) (by omega)]
          · rw [if_neg (fun z => hvd z.2)] at un
            rw [un] at hf ⊢
            obtain ⟨w5, r5⟩ := ih (i + 1) (by omega) (by omega) hf
            refine ⟨w5, ?_⟩
            rw [if_pos (by omega), zb_M_split_109, zG2 i0 (by omega)]
            simp (disch := omega) only [Int.reduceAdd, zrow_r, zrow_in, zrow_up, zrow_ne, zupE]
            rw [zb_M_split_114, zG2 k0 (by omega)]
            simp (disch := omega) only [Int.reduceAdd, zrow_r, zrow_in, zrow_up, zrow_ne, zupE, zup_na]
            rw [fk, zb_M_split_118, zG2 i0 (by omega), zw_id (z := R i + A k - A k) (by omega) (by omega), show R i + A k - A k = zup h 1475 k (-1) 1477 i by rw [zup_na (by decide)]; omega]
            simp (disch := omega) only [Int.reduceAdd, zrow_r, zrow_in, zrow_up, zrow_ne, zupE]
            rw [zup_zup, zup_self, zb_M_split_120, zw_id (z := i + 1) (by omega) (by omega)]
            exact r5
        · rw [if_neg (fun z => s z.1)] at un
          rw [un] at hf ⊢
          rw [if_neg s]
          exact ih (i + 1) (by omega) (by omega) hf
    have ok := fiP_ok (S := S) (A := A) (m := m) (r := r) (k := k) (R := R) (M := due) hd (by omega)
    obtain ⟨w5, r5⟩ := inner m 0 (Int.le_refl 0) (by omega) ok.2.1
    refine ⟨w5, ?_⟩
    rw [zb_M_split_55, if_neg (by omega), zb_M_split_58, zG2 k0 (by omega)]
    simp (disch := omega) only [Int.reduceAdd, zrow_r, zrow_in, zrow_up, zrow_ne, zupE]
    rw [zb_M_split_63]
    exact r5
  have next : ∀ (r : Nat) (k : Int) (R : Int → Int) (h : Int → Int → Int), 0 ≤ k → k + (r + 1 : Nat) = n → (∀ l, 0 ≤ l → l < (m : Int) → h 1477 l = R l ∧ 0 ≤ R l ∧ R l ≤ 9 * k) → (∀ j, 0 ≤ j → j < n → h 1474 j = A j) → LG S A m (r + 1) k R = due → (∀ l, 0 ≤ l → l < (m : Int) → zup (zup h 1477 (fiP S A m r k R due m 0) (R (fiP S A m r k R due m 0) + A k)) 1475 k (fiP S A m r k R due m 0) 1477 l = zup1 R (fiP S A m r k R due m 0) (R (fiP S A m r k R due m 0) + A k) l ∧ 0 ≤ zup1 R (fiP S A m r k R due m 0) (R (fiP S A m r k R due m 0) + A k) l ∧ zup1 R (fiP S A m r k R due m 0) (R (fiP S A m r k R due m 0) + A k) l ≤ 9 * (k + 1)) ∧ (∀ j, 0 ≤ j → j < n → zup (zup h 1477 (fiP S A m r k R due m 0) (R (fiP S A m r k R due m 0) + A k)) 1475 k (fiP S A m r k R due m 0) 1474 j = A j) ∧ LG S A m r (k + 1) (zup1 R (fiP S A m r k R due m 0) (R (fiP S A m r k R due m 0) + A k)) = due := by
    intro r k R h k0 hk hl ha hL
    have ok := fiP_ok (S := S) (A := A) (m := m) (r := r) (k := k) (R := R) (M := due) hd (by omega)
    have ge := LG_eq (l := fiP S A m r k R due m 0) hd hL ok.1 ok.2.1 ok.2.2.1
    have hak := hA k k0 (by omega)
    refine ⟨fun l l0 l1 => ?_, fun j j0 j1 => by rw [zup_na (by decide), zup_na (by decide)]; exact ha j j0 j1, by omega⟩
    obtain ⟨a1, a2, a3⟩ := hl l l0 l1
    rw [zup_na (by decide)]
    by_cases c : l = fiP S A m r k R due m 0
    · rw [← c, zupE rfl rfl, zup1_eq rfl]
      omega
    · rw [zup_nk c, zup1_ne c]
      omega
  induction c with
  | zero =>
    intro r k R v5 h k0 hk hc hl ha hL
    obtain ⟨r2, rfl⟩ : ∃ r2, r = r2 + 1 := ⟨r - 1, by omega⟩
    obtain ⟨w5, r5⟩ := one r2 k R v5 h k0 hk (by omega) hl ha hL
    have un : chP S A m due (r2 + 1) k R x = fiP S A m r2 k R due m 0 := if_pos (by omega)
    refine ⟨zup (zup h 1477 (fiP S A m r2 k R due m 0) (R (fiP S A m r2 k R due m 0) + A k)) 1475 k (fiP S A m r2 k R due m 0), ?_, fun o k a b => by rw [zup_na a, zup_na b]⟩
    rw [un, r5, zb_M_split_55, if_pos (by omega), zb_M_split_124, zG2 hx0 (by omega)]
    simp (disch := omega) only [Int.reduceAdd, zrow_r, zrow_in, zrow_up, zrow_ne, zupE]
    rw [zb_M_split_128]
  | succ c ih =>
    intro r k R v5 h k0 hk hc hl ha hL
    obtain ⟨r2, rfl⟩ : ∃ r2, r = r2 + 1 := ⟨r - 1, by omega⟩
    obtain ⟨w5, r5⟩ := one r2 k R v5 h k0 hk (by omega) hl ha hL
    obtain ⟨n1, n2, n3⟩ := next r2 k R h k0 hk hl ha hL
    have un : chP S A m due (r2 + 1) k R x = chP S A m due r2 (k + 1) (zup1 R (fiP S A m r2 k R due m 0) (R (fiP S A m r2 k R due m 0) + A k)) x := if_neg (by omega)
    obtain ⟨h2, r6, fr6⟩ := ih r2 (k + 1) _ w5 _ (by omega) (by omega) (by omega) n1 n2 n3
    refine ⟨h2, ?_, fun o k a b => by rw [fr6 o k a b, zup_na a, zup_na b]⟩
    rw [un, r5]
    exact r6

