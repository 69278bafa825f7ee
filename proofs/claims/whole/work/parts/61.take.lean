/-! ## the class: what is taken -/
theorem rRepS_no {g : Int → Int} {B m : Int} : ∀ (n : Nat) (i r : Int), (r = 0 ∨ r = 1) → (∀ k, i ≤ k → k < i + n → g (B + (17 + 4 * k + 2)) ≠ m) → rRepS g B m n i r = r := by
  intro n
  induction n with
  | zero => intro i r _ _; rfl
  | succ n ih =>
    intro i r hr hk
    show rRepS g B m n (i + 1) (if r ≠ 0 then 1 else if g (B + (17 + 4 * i + 2)) = m ∧ 1 < g (B + (17 + 4 * i + 3)) then 1 else 0) = r
    rw [if_neg (show ¬(g (B + (17 + 4 * i + 2)) = m ∧ 1 < g (B + (17 + 4 * i + 3))) from fun z => hk i (by omega) (by omega) z.1)]
    have e : (if r ≠ 0 then (1 : Int) else 0) = r := by split <;> omega
    rw [e]
    exact ih (i + 1) r hr (fun k a1 a2 => hk k (by omega) (by omega))
theorem rRepS_at {g : Int → Int} {B m : Int} : ∀ (n : Nat) (i : Int), 0 ≤ i → (∀ k k', i ≤ k → k < i + n → i ≤ k' → k' < i + n → g (B + (17 + 4 * k + 2)) = g (B + (17 + 4 * k' + 2)) → k = k') → rRepS g B m n i 0 = if zfst (fun k => decide (g (B + (17 + 4 * k + 2)) = m)) (-1) n i = -1 then 0 else if 1 < g (B + (17 + 4 * zfst (fun k => decide (g (B + (17 + 4 * k + 2)) = m)) (-1) n i + 3)) then 1 else 0 := by
  intro n
  induction n with
  | zero => intro i _ _; rfl
  | succ n ih =>
    intro i i0 hd
    show rRepS g B m n (i + 1) (if (0 : Int) ≠ 0 then 1 else if g (B + (17 + 4 * i + 2)) = m ∧ 1 < g (B + (17 + 4 * i + 3)) then 1 else 0) = _
    rw [if_neg (by decide)]
    by_cases c : g (B + (17 + 4 * i + 2)) = m
    · rw [zfst_hit (decide_eq_true c), if_neg (show ¬i = -1 by omega)]
      have hno : ∀ k, i + 1 ≤ k → k < i + 1 + n → g (B + (17 + 4 * k + 2)) ≠ m := fun k a1 a2 z => by
        have := hd i k (by omega) (by omega) (by omega) (by omega) (c.trans z.symm)
        omega
      by_cases c2 : 1 < g (B + (17 + 4 * i + 3))
      · rw [if_pos ⟨c, c2⟩, if_pos c2]
        exact rRepS_no n (i + 1) 1 (Or.inr rfl) hno
      · rw [if_neg (fun z => c2 z.2), if_neg c2]
        exact rRepS_no n (i + 1) 0 (Or.inl rfl) hno
    · rw [zfst_miss (decide_eq_false c), if_neg (fun z => c z.1)]
      exact ih (i + 1) (by omega) (fun k k' a1 a2 a3 a4 => hd k k' (by omega) (by omega) (by omega) (by omega))
theorem rRep_place {N : Int} {g : Int → Int} {B m : Int} (hr : rLR g B) (hN : zLN N g B) : rRep g B m = if zfst (fun k => decide (g (B + (17 + 4 * k + 2)) = m)) (-1) (g (B + 7)).toNat 0 = -1 then 0 else if 1 < g (B + (17 + 4 * zfst (fun k => decide (g (B + (17 + 4 * k + 2)) = m)) (-1) (g (B + 7)).toNat 0 + 3)) then 1 else 0 := by
  have h7 := hr.2.2.2.2.2.2.2.1
  refine rRepS_at _ 0 (by decide) (fun k k' a1 a2 a3 a4 he => ?_)
  have e1 := (hN k a1 (by omega)).1
  have e2 := (hN k' a3 (by omega)).1
  omega
theorem c_take {q : Int × (Int → Int)} {d : Nat} {σ : zS} {N n W l b a : Int} {g : Int → Int} {B : Int} {S : Int → (Int → Int) → Int} {h0 : Int → Int → Int} (hS : zSC S) (hA : zAskC q S a h0) (hh : ∀ o k, a ≤ o → o < a + 6 → σ.1 o k = h0 o k) (ha : a + 7 ≤ W) (hB : B = 10 + 265 * l) (hl : 0 ≤ l) (hl4 : l < 4) (hb : W + 23 ≤ b) (hn : 1 ≤ n) (n4 : n ≤ 4) (hI : zIL N g B) (hR : zGR N g) (h : zLC n σ.1 b g B) (hG : zGC σ.1 W g) (k0 : g (B + (49 + 0)) = 2) : ∃ f2, zM (true, q) (d + 4) 114 [(18, W, 0), (0, l, 0), (13, b, 0), (12, a, 0)] σ = some ((9, 0, 0), (f2, σ.2)) ∧ zLC n f2 b (rTake g l B (g (B + (49 + 4)) + (zLwA S (rFact g l (g (B + (49 + 4))) (g (B + 9)) (rRep g B (g (B + 11))))).2) (g (B + (49 + 1)))) B ∧ zGC f2 W (rTake g l B (g (B + (49 + 4)) + (zLwA S (rFact g l (g (B + (49 + 4))) (g (B + 9)) (rRep g B (g (B + 11))))).2) (g (B + (49 + 1)))) ∧ zFX W b a σ.1 f2 := by
  obtain ⟨h_0, h_1, h_2, h_3, h_4, h_5, h_6, h_7, h_8, h_9, h_10, h_11, h_12, h_13, h_14, h_15, h_16⟩ := id hI.1
  obtain ⟨R4, R5, R6, R8⟩ := id hR
  have e8 := zNL8
  have hz2 := (zA_0 hI.2.2.2.1).2.2.2 k0
  have f13 := zc_f13 h
  obtain ⟨len, hlen⟩ : ∃ x, g (B + (49 + 4)) = x := ⟨_, rfl⟩
  obtain ⟨ser, hser⟩ : ∃ x, g (B + (49 + 1)) = x := ⟨_, rfl⟩
  rw [hlen] at hz2 ⊢
  rw [hser]
  have hpl := c_place (q := q) (d := d + 3) (m := g (B + 11)) h h_7
  have hrp := rRep_place (m := g (B + 11)) hI.1 hI.2.2.2.2
  have hrng := zfst_rng (p := fun k => decide (g (B + (17 + 4 * k + 2)) = g (B + 11))) (no := -1) (g (B + 7)).toNat 0
  obtain ⟨f1, r1, hf1, fr1⟩ := c_tellFacts (q := q) (d := d + 2) hB hb h hG.2.2.1 (by omega)
  generalize zfst (fun k => decide (g (B + (17 + 4 * k + 2)) = g (B + 11))) (-1) (g (B + 7)).toNat 0 = pl at hpl hrp hrng
  have h1 : zLC n f1 b g B := zLC_fr (fun o k _ _ => fr1 o k (by omega)) h
  obtain ⟨_, _, a2⟩ := zc_air0 h1 hn
  obtain ⟨a13, a14, _⟩ := a2 k0
  rw [hlen] at a14
  rw [hser] at a13
  have hrep : rRep g B (g (B + 11)) = 0 ∨ rRep g B (g (B + 11)) = 1 := by
    rw [hrp]
    split
    · exact Or.inl rfl
    · split <;> omega
  -- the facts
  have run1 : zM (true, q) (d + 4) 114 [(18, W, 0), (0, l, 0), (13, b, 0), (12, a, 0)] σ = zD (true, q) (d + 4) zc_Wor_take (zat zc_Wor_take 38) [(18, W, 0), (0, l, 0), (13, b, 0), (12, a, 0), (0, pl, 0)] [] (zup (zup (zup f1 (W + 22) 1 len) (W + 22) 7 0) (W + 22) 9 (rRep g B (g (B + 11))), σ.2) := by
    rw [ze_Wor_take, zb_Wor_take_0, f13, hpl, zK_i, zb_Wor_take_5, r1, zK_v, zb_Wor_take_10]
    simp only [Int.add_assoc, Int.reduceAdd]
    rw [s_at (by omega) (by omega), zK_i]
    show zD (true, q) (d + 3 + 1) zc_Wor_take (zat zc_Wor_take 18) _ [(0, f1 (b + 14) 0, 0), (0, 1, 0), (30, W + 22, 10)] (f1, σ.2) = _
    rw [a14, zb_Wor_take_18, s_put (by decide) (by decide), zK_v, zb_Wor_take_19, s_put (by decide) (by decide), zK_v, zb_Wor_take_24]
    simp only [Int.add_assoc, Int.reduceAdd, e8]
    have hsent : ∀ F : Int → Int → Int, (∀ k, F (b + 10) k = f1 (b + 10) k) → ∃ y, zM (true, q) (d + 3) 22 [(30, b + 10, 8), (0, pl, 0)] (F, σ.2) = some ((0, y, 0), (F, σ.2)) ∧ (if y ≤ 1 then (0 : Int) else 1) = rRep g B (g (B + 11)) := by
      intro F hF
      by_cases c : pl = -1
      · refine ⟨0, s_at0 (by omega), ?_⟩
        rw [hrp, if_pos c, if_pos (by decide)]
      · have hp9 : f1 (b + 10) pl = g (B + (17 + 4 * pl + 3)) := h1.2.2.2.1 pl 3 (by omega) (by omega) (by decide) (by decide)
        refine ⟨F (b + 10) pl, s_at (by omega) (by omega), ?_⟩
        rw [hrp, if_neg c, hF, hp9]
        split <;> split <;> omega
    obtain ⟨y, ry, hy⟩ := hsent (zup (zup f1 (W + 22) 1 len) (W + 22) 7 0) (fun k => by rw [zup_na (by omega), zup_na (by omega)])
    rw [ry, zK_i, zb_Wor_take_32]
    by_cases cy : y ≤ 1
    · rw [if_pos cy, zb_Wor_take_36, s_put (by decide) (by decide), zK_v, ← hy, if_pos cy]
    · rw [if_neg cy, zb_Wor_take_34, s_put (by decide) (by decide), zK_v, ← hy, if_neg cy]
  rw [run1]
  have hf2 : ∀ i, 0 ≤ i → i < 10 → zup (zup (zup f1 (W + 22) 1 len) (W + 22) 7 0) (W + 22) 9 (rRep g B (g (B + 11))) (W + 22) i = rFact g l (len) (g (B + 9)) (rRep g B (g (B + 11))) i := by
    intro i i0 i1
    by_cases i9 : i = 9
    · subst i9
      rw [zupE rfl rfl]
      rfl
    · rw [zup_nk i9]
      by_cases i7 : i = 7
      · subst i7
        rw [zupE rfl rfl]
        unfold rFact
        rw [if_neg (by decide), if_neg (by decide), if_neg (by decide), if_neg (by decide), if_neg (by decide), if_neg (by decide), if_neg (by decide), if_pos rfl, if_neg (by omega)]
      · rw [zup_nk i7]
        by_cases c1 : i = 1
        · subst c1
          rw [zupE rfl rfl]
          rfl
        · rw [zup_nk c1, hf1 i i0 i1]
          unfold rFact
          rw [if_neg c1, if_neg c1, if_neg i7, if_neg i7, if_neg i9, if_neg i9]
  have fr2 : ∀ o k, o ≠ W + 22 → zup (zup (zup f1 (W + 22) 1 len) (W + 22) 7 0) (W + 22) 9 (rRep g B (g (B + 11))) o k = σ.1 o k := fun o k ho => by
    rw [zup_na ho, zup_na ho, zup_na ho]
    exact fr1 o k ho
  generalize zup (zup (zup f1 (W + 22) 1 len) (W + 22) 7 0) (W + 22) 9 (rRep g B (g (B + 11))) = f2 at hf2 fr2 ⊢
  have h2 : zLC n f2 b g B := zLC_fr (fun o k _ _ => fr2 o k (by omega)) h
  obtain ⟨_, _, a2⟩ := zc_air0 h2 hn
  obtain ⟨a13, a14, _⟩ := a2 k0
  rw [hlen] at a14
  rw [hser] at a13
  obtain ⟨y1, y2, y3, y4, y5, y6, y7, y8⟩ := id hG
  obtain ⟨f3, r3, fr3⟩ := hA d (f2, σ.2) (W + 22) 2 (fun o k a1 a2 => (fr2 o k (by omega)).trans (hh o k a1 a2)) (by omega) (by decide) (by decide)
  have e2 : S 2 (f2 (W + 22)) = (zLwA S (rFact g l (len) (g (B + 9)) (rRep g B (g (B + 11))))).2 := hS.1 2 _ _ hf2
  have r3 : zM (true, q) (d + 3) 112 [(12, a, 0), (0, 2, 0), (30, W + 22, 10)] (f2, σ.2) = some ((0, (zLwA S (rFact g l (len) (g (B + 9)) (rRep g B (g (B + 11))))).2, 0), (f3, σ.2)) := by
    rw [r3, ← e2]
  have hs2 : 0 ≤ (zLwA S (rFact g l (len) (g (B + 9)) (rRep g B (g (B + 11))))).2 ∧ (zLwA S (rFact g l (len) (g (B + 9)) (rRep g B (g (B + 11))))).2 ≤ 1188 := hS.2 2 _
  generalize (zLwA S (rFact g l (len) (g (B + 9)) (rRep g B (g (B + 11))))).2 = s2 at *
  have fr3 : ∀ o k, o ≠ a + 6 → f3 o k = f2 o k := fr3
  have w8 : f2 W 8 = g 6 := (fr2 W 8 (by omega)).trans y5
  have h3 : zLC n f3 b g B := zLC_fr (fun o k _ _ => fr3 o k (by omega)) h2
  obtain ⟨_, _, a2'⟩ := zc_air0 h3 hn
  obtain ⟨c13, _, _⟩ := a2' k0
  rw [hser] at c13
  have f3W : ∀ k, f3 W k = σ.1 W k := fun k => (fr3 W k (by omega)).trans (fr2 W k (by omega))
  -- worth and taken
  have run2 : ∀ v6, v6 = (if g 6 + (len + s2) ≤ 99999 then g 6 + (len + s2) else 99999) → zD (true, q) (d + 4) zc_Wor_take (zat zc_Wor_take 38) [(18, W, 0), (0, l, 0), (13, b, 0), (12, a, 0), (0, pl, 0)] [] (f2, σ.2) = zD (true, q) (d + 4) zc_Wor_take (zat zc_Wor_take 81) [(18, W, 0), (0, l, 0), (13, b, 0), (12, a, 0), (0, pl, 0)] [(0, ser, 0), (0, 0, 0), (0, l, 0), (0, g 4, 0), (11, W + 20, 0)] (zup (zup (zup f3 W 8 (g 6 + (len + s2))) W 8 v6) W 7 (zw (g 5 + 1)), σ.2) := by
    intro v6 hv6
    rw [zb_Wor_take_38]
    simp only [Int.add_assoc, Int.reduceAdd, w8]
    rw [s_at (by omega) (by omega), zK_i]
    show zD (true, q) (d + 3 + 1) zc_Wor_take (zat zc_Wor_take 46) _ [(0, f2 (b + 14) 0, 0), (0, g 6, 0), (18, W, 0)] (f2, σ.2) = _
    rw [a14, zb_Wor_take_46, r3, zK_i, zb_Wor_take_51, zw_id (show -2147483648 ≤ len + s2 by omega) (by omega), zw_id (by omega) (by omega)]
    show (if 99999 ≤ zup f3 W 8 (g 6 + (len + s2)) W 8 then _ else _) = _
    rw [zupE rfl rfl]
    have t7 : ∀ v v' : Int, zup (zup f3 W 8 v) W 8 v' W 7 = g 5 := fun v v' => by
      rw [zup_nk (by decide), zup_nk (by decide), f3W]
      exact y4
    have t6 : ∀ v v' v'' : Int, zup (zup (zup f3 W 8 v) W 8 v') W 7 v'' W 6 = g 4 := fun v v' v'' => by
      rw [zup_nk (by decide), zup_nk (by decide), zup_nk (by decide), f3W]
      exact y3
    have t13 : ∀ v v' v'' : Int, zup (zup (zup f3 W 8 v) W 8 v') W 7 v'' (b + 13) 0 = ser := fun v v' v'' => by
      rw [zup_na (by omega), zup_na (by omega), zup_na (by omega)]
      exact c13
    by_cases cv : 99999 ≤ g 6 + (len + s2)
    · rw [if_pos cv, zb_Wor_take_62]
      simp only [Int.add_assoc, Int.reduceAdd, t7, t6]
      rw [s_at (by decide) (by decide), zK_i]
      simp only [t13]
      rw [hv6]
      split
      · rw [show g 6 + (len + s2) = 99999 by omega]
      · rfl
    · rw [if_neg cv, zb_Wor_take_59]
      simp only [Int.add_assoc, Int.reduceAdd]
      have t8 : zup f3 W 8 (g 6 + (len + s2)) W 8 = v6 := by
        rw [zupE rfl rfl, hv6, if_pos (by omega)]
      simp only [t8, t7, t6]
      rw [s_at (by decide) (by decide), zK_i]
      simp only [t13]
  obtain ⟨v6, hv6⟩ : ∃ v6, v6 = (if g 6 + (len + s2) ≤ 99999 then g 6 + (len + s2) else 99999) := ⟨_, rfl⟩
  rw [run2 v6 hv6]
  -- the journal
  have hJ : zJC (zup (zup (zup f3 W 8 (g 6 + (len + s2))) W 8 v6) W 7 (zw (g 5 + 1))) W (zup1 (zup1 (zup1 g 6 v6) 5 (zw (g 5 + 1))) (B + 11) (zrem (g (B + 11) + 1) 16)) := by
    refine zJC_fr (fun k => ?_) (fun k => ?_) (by rw [zup1_ne (by omega), zup1_ne (by omega), zup1_ne (by omega)]) (fun j _ _ => by rw [zup1_ne (by omega), zup1_ne (by omega), zup1_ne (by omega)]) R8.2 y8
    · rw [zup_na (by omega), zup_na (by omega), zup_na (by omega), fr3 _ _ (by omega), fr2 _ _ (by omega)]
    · rw [zup_na (by omega), zup_na (by omega), zup_na (by omega), fr3 _ _ (by omega), fr2 _ _ (by omega)]
  have G4 : (zup1 (zup1 (zup1 g 6 v6) 5 (zw (g 5 + 1))) (B + 11) (zrem (g (B + 11) + 1) 16)) 4 = g 4 := by rw [zup1_ne (by omega), zup1_ne (by omega), zup1_ne (by omega)]
  have G8 : (zup1 (zup1 (zup1 g 6 v6) 5 (zw (g 5 + 1))) (B + 11) (zrem (g (B + 11) + 1) 16)) 8 = g 8 := by rw [zup1_ne (by omega), zup1_ne (by omega), zup1_ne (by omega)]
  obtain ⟨f5, r5, j5, fr5⟩ := c_joAdd (q := q) (d := d + 2) (σ := (zup (zup (zup f3 W 8 (g 6 + (len + s2))) W 8 v6) W 7 (zw (g 5 + 1)), σ.2)) (l := l) (w := 0) (v := ser) (by rw [G8]; exact R8.1) (by rw [G8]; exact R8.2) hJ
  rw [G4] at r5
  have fr5 : ∀ o k, o ≠ W + 20 → o ≠ W + 21 → f5 o k = zup (zup (zup f3 W 8 (g 6 + (len + s2))) W 8 v6) W 7 (zw (g 5 + 1)) o k := fr5
  have h5 : zLC n f5 b g B := zLC_fr (fun o k _ _ => by rw [fr5 o k (by omega) (by omega), zup_na (by omega), zup_na (by omega), zup_na (by omega)]) h3
  have f513 : f5 b 13 = g (B + 11) := zc_f13 h5
  refine ⟨zup f5 b 13 (zrem (g (B + 11) + 1) 16), ?_, ?_, ?_, fun o k a1 a2 a3 a4 a5 a6 => ?_⟩
  · rw [zb_Wor_take_81, r5, zK_v, zb_Wor_take_82]
    show zG [16] (zD (true, q) (d + 3 + 1) zc_Wor_take (zat zc_Wor_take 89) _ [(0, zrem (zw (f5 b 13 + 1)) 16, 0), (13, b, 0)] (f5, σ.2)) = _
    rw [f513, zw_id (by omega) (by omega), zG1 (by decide), zb_Wor_take_89]
  · have hr2 : rLR (zup1 g (B + 11) (zrem (g (B + 11) + 1) 16)) B := by
      have hz := zrem16 (x := g (B + 11) + 1) (by omega)
      unfold rLR
      rw [zup1_ne (show B + 0 ≠ B + 11 by omega), zup1_ne (show B + 1 ≠ B + 11 by omega), zup1_ne (show B + 2 ≠ B + 11 by omega), zup1_ne (show B + 3 ≠ B + 11 by omega), zup1_ne (show B + 4 ≠ B + 11 by omega), zup1_ne (show B + 5 ≠ B + 11 by omega), zup1_ne (show B + 6 ≠ B + 11 by omega), zup1_ne (show B + 7 ≠ B + 11 by omega), zup1_ne (show B + 8 ≠ B + 11 by omega), zup1_ne (show B + 9 ≠ B + 11 by omega), zup1_ne (show B + 10 ≠ B + 11 by omega), zup1_ne (show B + 12 ≠ B + 11 by omega), zup1_ne (show B + 13 ≠ B + 11 by omega), zup1_ne (show B + 14 ≠ B + 11 by omega), zup1_ne (show B + 15 ≠ B + 11 by omega), zup1_ne (show B + 16 ≠ B + 11 by omega), zup1_eq rfl]
      exact ⟨h_0, h_1, h_2, h_3, h_4, h_5, h_6, h_7, h_8, h_9, h_10, hz, h_12, h_13, h_14, h_15, h_16⟩
    refine zLC_eq (fun j a1 a2 => ?_) hr2 n4 (zu_13 h5)
    unfold rTake
    rw [rLog_out (by omega) (by omega)]
    by_cases cj : j = B + 11
    · rw [zup1_eq cj, zup1_eq cj]
    · rw [zup1_ne cj, zup1_ne cj, zup1_ne (by omega), zup1_ne (by omega)]
  · have f5W : ∀ k, k ≠ 7 → k ≠ 8 → zup f5 b 13 (zrem (g (B + 11) + 1) 16) W k = σ.1 W k := fun k k7 k8 => by
      rw [zup_na (by omega), fr5 _ _ (by omega) (by omega), zup_nk k7, zup_nk k8, zup_nk k8, f3W]
    unfold rTake
    rw [← hv6]
    unfold zGC
    rw [f5W 4 (by decide) (by decide), f5W 5 (by decide) (by decide), f5W 6 (by decide) (by decide), f5W 9 (by decide) (by decide), f5W 10 (by decide) (by decide), rLog_out (by omega) (by omega), rLog_out (by omega) (by omega), rLog_out (by omega) (by omega), rLog_out (by omega) (by omega), rLog_out (by omega) (by omega), rLog_out (by omega) (by omega), rLog_out (by omega) (by omega)]
    refine ⟨?_, ?_, ?_, ?_, ?_, ?_, ?_, ?_⟩
    · rw [zup1_ne (by omega), zup1_ne (by omega), zup1_ne (by omega)]; exact y1
    · rw [zup1_ne (by omega), zup1_ne (by omega), zup1_ne (by omega)]; exact y2
    · rw [zup1_ne (by omega), zup1_ne (by omega), zup1_ne (by omega)]; exact y3
    · rw [zup1_ne (by omega), zup1_eq rfl, zup_na (by omega), fr5 _ _ (by omega) (by omega), zupE rfl rfl]
    · rw [zup1_ne (by omega), zup1_ne (by omega), zup1_eq rfl, zup_na (by omega), fr5 _ _ (by omega) (by omega), zup_nk (by decide), zupE rfl rfl]
    · rw [zup1_ne (by omega), zup1_ne (by omega), zup1_ne (by omega)]; exact y6
    · rw [zup1_ne (by omega), zup1_ne (by omega), zup1_ne (by omega)]; exact y7
    · obtain ⟨z1, z2, z3, z4⟩ := j5
      refine ⟨by rw [zup_na (by omega)]; exact z1, by rw [zup_na (by omega)]; exact z2, by rw [zup_na (by omega)]; exact z3, fun ago c a0 a1 c0 c1 => ?_⟩
      rw [zup_na (by omega), zup_na (by omega)]
      exact z4 ago c a0 a1 c0 c1
  · rw [zup_na (by omega), fr5 o k a3 a4, zup_na a2, zup_na a2, zup_na a2, fr3 o k a6]
    exact fr2 o k a5
