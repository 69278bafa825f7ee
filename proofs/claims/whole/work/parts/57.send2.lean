/-! ## the class: sending -/
theorem cs_none {q : Int × (Int → Int)} {d : Nat} {σ : zS} {n W l b x3 x4 : Int} {g : Int → Int} {B : Int} (hB : B = 10 + 265 * l) (hb : W + 23 ≤ b) (h : zLC n σ.1 b g B) (h6 : σ.1 W 6 = g 4) (h9 : g (B + 9) = 0 ∨ g (B + 9) = 1) (hn : g (B + 0) ≠ 2 ∨ g (B + 7) = 0) : ∃ f2, zD (true, q) (d + 2) zc_Wor_send (zat zc_Wor_send 69) [(18, W, 0), (0, l, 0), (13, b, 0), (0, x3, 0), (0, x4, 0), (2, 0, 0), (2, 0, 0)] [] σ = some ((0, -1, 0), (f2, σ.2)) ∧ zLC n f2 b g B ∧ (∀ i, 0 ≤ i → i < 10 → f2 (W + 22) i = rFact g l 0 (g (B + 9)) 0 i) ∧ (∀ o k, o ≠ W + 22 → f2 o k = σ.1 o k) := by
  obtain ⟨f2, hr, hf, fr⟩ := c_tellFacts (q := q) (d := d) hB hb h h6 h9
  have h2 : zLC n f2 b g B := zLC_fr (fun o k _ _ => fr o k (by omega)) h
  have f4 : f2 b 4 = g (B + 0) := zc_f4 h2
  have k7 : f2 (b + 6) 4 = g (B + 7) := h2.2.2.1
  refine ⟨f2, ?_, h2, hf, fr⟩
  rw [zb_Wor_send_69, hr, zK_v, zb_Wor_send_73]
  by_cases c : g (B + 0) = 2
  · rw [if_neg (show ¬f2 b 4 ≠ 2 by omega), zb_Wor_send_77, if_neg (show ¬f2 (b + 6) 4 ≠ 0 by omega), zb_Wor_send_81]
  · rw [if_pos (show f2 b 4 ≠ 2 by omega), zb_Wor_send_81]
theorem cs_hand {q : Int × (Int → Int)} {d : Nat} {σ : zS} {N n W l b x3 : Int} {g : Int → Int} {B : Int} (hB : B = 10 + 265 * l) (hb : W + 23 ≤ b) (hI : zIL N g B) (h : zLC n σ.1 b g B) (h6 : σ.1 W 6 = g 4) (hs : g (B + 0) = 2) (hk : 0 < g (B + 7)) : ∃ f2, zD (true, q) (d + 2) zc_Wor_send (zat zc_Wor_send 69) [(18, W, 0), (0, l, 0), (13, b, 0), (0, x3, 0), (0, 0, 0), (2, 0, 0), (2, 0, 0)] [] σ = some ((0, g (B + 8), 0), (f2, σ.2)) ∧ zLC n f2 b (rHand g B) B ∧ (∀ i, 0 ≤ i → i < 10 → f2 (W + 22) i = rFact g l (g (B + (17 + 4 * g (B + 8) + 1))) (g (B + 9)) 1 i) ∧ (∀ o k, (o < b ∨ b + 18 ≤ o) → o ≠ W + 22 → f2 o k = σ.1 o k) := by
  obtain ⟨h_0, h_1, h_2, h_3, h_4, h_5, h_6, h_7, h_8, h_9, h_10, h_11, h_12, h_13, h_14, h_15, h_16⟩ := id hI.1
  have hh := hI.2.2.1.1
  have hn := hI.2.2.2.2 (g (B + 8)) h_8.1 (by omega)
  have hln := hI.2.1.1 (g (B + 8)) h_8.1 (by omega)
  have e8 := zNL8
  obtain ⟨f2, hr, hf, fr⟩ := c_tellFacts (q := q) (d := d) hB hb h h6 (by omega)
  have h2 : zLC n f2 b g B := zLC_fr (fun o k _ _ => fr o k (by omega)) h
  have f4 : f2 b 4 = g (B + 0) := zc_f4 h2
  have f10 : f2 b 10 = g (B + 8) := zc_f10 h2
  have k7 : f2 (b + 6) 4 = g (B + 7) := h2.2.2.1
  have s3 : f2 (b + 10) (g (B + 8)) = g (B + (17 + 4 * g (B + 8) + 3)) := h2.2.2.2.1 _ 3 h_8.1 (by omega) (by decide) (by decide)
  obtain ⟨f3, hr3, h3, hf3, fr3⟩ := cs_tail (q := q) (d := d + 1) (σ := (f2, σ.2)) (l := l) (g0 := g) (fo := g (B + 9)) (m := g (B + 8)) (x3 := x3) (x4 := 0) (x6 := g (B + (17 + 4 * g (B + 8) + 3))) hb h2 h_8.1 (by omega) h_7.2 hf hln.1
  obtain ⟨f5, hr5, h5, fr5⟩ := c_handOn (q := q) (d := d + 1) (σ := (f3, σ.2)) (by rw [zup1_ne (by omega)]; exact h_8) h3
  refine ⟨f5, ?_, ?_, fun i i0 i1 => ?_, fun o k a1 a2 => ?_⟩
  · rw [zb_Wor_send_69, hr, zK_v, zb_Wor_send_73, if_neg (show ¬f2 b 4 ≠ 2 by omega), zb_Wor_send_77, if_pos (show f2 (b + 6) 4 ≠ 0 by omega), zb_Wor_send_83, if_pos rfl, zb_Wor_send_91]
    simp only [Int.add_assoc, Int.reduceAdd, f10]
    rw [s_at (by omega) (by omega), zK_i]
    show zD (true, q) (d + 2) zc_Wor_send (zat zc_Wor_send 99) _ [(0, f2 (b + 10) (g (B + 8)), 0)] (f2, σ.2) = _
    rw [s3]
    refine hr3.trans ?_
    rw [zb_Wor_send_131, if_neg (by decide), zb_Wor_send_133, hr5, zK_v, zb_Wor_send_135]
  · unfold rHand
    rw [zup1_ne (show B + 8 ≠ B + (17 + 4 * g (B + 8) + 3) by omega), zup1_ne (show B + 7 ≠ B + (17 + 4 * g (B + 8) + 3) by omega)] at h5
    exact h5
  · have fr5 : zFb b f3 f5 := fr5
    rw [fr5 _ _ (by omega), hf3 i i0 i1, if_neg (by omega)]
  · have fr5 : zFb b f3 f5 := fr5
    rw [fr5 o k a1, fr3 o k a1 a2]
    exact fr o k a2
theorem kWhat_c {g : Int → Int} {B : Int} : (g (B + 0) ≠ 2 → kWhat g B = 0) ∧ (g (B + 0) = 2 → g (B + 9) = 1 → kWhat g B = 1) ∧ (g (B + 0) = 2 → g (B + 9) ≠ 1 → 0 < g (B + 6) → rFits g B = true → kWhat g B = 2) ∧ (g (B + 0) = 2 → g (B + 9) ≠ 1 → 0 < g (B + 6) → rFits g B ≠ true → kWhat g B = 3) ∧ (g (B + 0) = 2 → g (B + 9) ≠ 1 → ¬0 < g (B + 6) → 0 < g (B + 7) → kWhat g B = 1) ∧ (g (B + 0) = 2 → g (B + 9) ≠ 1 → ¬0 < g (B + 6) → ¬0 < g (B + 7) → kWhat g B = 0) := by
  unfold kWhat rNext
  refine ⟨fun a => if_neg a, fun a b => ?_, fun a b c e => ?_, fun a b c e => ?_, fun a b c e => ?_, fun a b c e => ?_⟩
  · rw [if_pos a, if_pos b]
  · rw [if_pos a, if_neg b, if_pos c, if_pos e]
  · rw [if_pos a, if_neg b, if_pos c, if_neg e]
  · rw [if_pos a, if_neg b, if_neg c, if_pos e]
  · rw [if_pos a, if_neg b, if_neg c, if_neg e]
/-- a new unit, told in the class's order -/
theorem gNew_eq {g : Int → Int} {B : Int} (hr : rLR g B) (h : kWhat g B = 2) : zLE (zup1 (zup1 (gQ (gAdd g B (g (B + (73 + 2 * 0 + 0))) (g (B + (73 + 2 * 0 + 1))) (g (B + 10))) B) (B + 10) (zrem (g (B + 10) + 1) 16)) (B + (17 + 4 * g (B + 7) + 3)) 1) (rNew g B) B := by
  obtain ⟨h_0, h_1, h_2, h_3, h_4, h_5, h_6, h_7, h_8, h_9, h_10, h_11, h_12, h_13, h_14, h_15, h_16⟩ := id hr
  obtain ⟨n0, _, k8, _, _, _⟩ := kWhat_2 hr h
  intro j j0 j1
  have a6 : gAdd g B (g (B + (73 + 2 * 0 + 0))) (g (B + (73 + 2 * 0 + 1))) (g (B + 10)) (B + 6) = g (B + 6) := by
    unfold gAdd
    simp (disch := omega) only [zup1_ne]
  have b6 : rNewA g B (B + 6) = g (B + 6) - 1 := zup1_eq rfl
  have b10 : rNewA g B (B + 10) = g (B + 10) := by
    unfold rNewA
    simp (disch := omega) only [zup1_ne]
  unfold rNew rNewT gQ
  rw [a6, b6, b10]
  by_cases c1 : j = B + (17 + 4 * g (B + 7) + 3)
  · subst c1
    rw [zup1_eq rfl, zup1_ne (by omega), msh_out (by omega)]
    unfold rNewA
    rw [zup1_ne (by omega), zup1_ne (by omega), zup1_eq rfl]
  · rw [zup1_ne c1]
    by_cases c2 : j = B + 10
    · rw [zup1_eq c2, zup1_eq c2]
    · rw [zup1_ne c2, zup1_ne c2]
      by_cases c3 : j = B + 6
      · subst c3
        rw [zup1_eq rfl, msh_out (by omega), b6]
      · rw [zup1_ne c3]
        by_cases c4 : B + 73 ≤ j ∧ j < B + 73 + 2 * (g (B + 6) - 1)
        · rw [msh_in c4.1 c4.2, msh_in c4.1 c4.2]
          unfold rNewA gAdd
          simp (disch := omega) only [zup1_ne]
        · rw [msh_out (by omega), msh_out (by omega)]
          unfold rNewA gAdd
          rw [zup1_ne c3]
          by_cases c5 : j = B + 7
          · rw [zup1_eq c5, zup1_eq c5]
          · rw [zup1_ne c5, zup1_ne c5, zup1_ne c1, zup1_ne c1]
theorem cs_new {q : Int × (Int → Int)} {d : Nat} {σ : zS} {N n W l b x3 : Int} {g : Int → Int} {B : Int} (hB : B = 10 + 265 * l) (hl : 0 ≤ l) (hb : W + 23 ≤ b) (n4 : n ≤ 4) (hI : zIL N g B) (h : zLC n σ.1 b g B) (h6 : σ.1 W 6 = g 4) (hw : kWhat g B = 2) : ∃ f2, zD (true, q) (d + 2) zc_Wor_send (zat zc_Wor_send 22) [(18, W, 0), (0, l, 0), (13, b, 0), (0, x3, 0), (0, 1, 0), (2, 0, 0), (2, 0, 0)] [] σ = some ((0, g (B + 7), 0), (f2, σ.2)) ∧ zLC n f2 b (rNew g B) B ∧ (∀ i, 0 ≤ i → i < 10 → f2 (W + 22) i = rFact (rNew g B) l (g (B + (73 + 2 * 0 + 1))) (g (B + 9)) 0 i) ∧ (∀ o k, (o < b ∨ b + 18 ≤ o) → o ≠ W + 22 → f2 o k = σ.1 o k) := by
  obtain ⟨h_0, h_1, h_2, h_3, h_4, h_5, h_6, h_7, h_8, h_9, h_10, h_11, h_12, h_13, h_14, h_15, h_16⟩ := id hI.1
  obtain ⟨n0, _, k8, hs, hf9, _⟩ := kWhat_2 hI.1 hw
  have hln := hI.2.1.2 0 (by decide) n0
  have hlE := gNew_eq hI.1 hw
  have e8 := zNL8
  have q2 : σ.1 (b + 2) 0 = g (B + (73 + 2 * 0 + 0)) := h.2.2.2.2.1 0 0 (by decide) n0 (by decide) (by decide)
  have q3 : σ.1 (b + 3) 0 = g (B + (73 + 2 * 0 + 1)) := h.2.2.2.2.1 0 1 (by decide) n0 (by decide) (by decide)
  have q12 : σ.1 b 12 = g (B + 10) := zc_f12 h
  obtain ⟨f1, r1, h1, fr1⟩ := c_addB (q := q) (d := d) (s := g (B + (73 + 2 * 0 + 0))) (len := g (B + (73 + 2 * 0 + 1))) (num := g (B + 10)) h_7.1 k8 h
  have ea : ∀ j, (j < 17 ∨ 49 ≤ j) → j ≠ 7 → gAdd g B (g (B + (73 + 2 * 0 + 0))) (g (B + (73 + 2 * 0 + 1))) (g (B + 10)) (B + j) = g (B + j) := fun j _ _ => by
    unfold gAdd
    rw [zup1_ne (by omega), zup1_ne (by omega), zup1_ne (by omega), zup1_ne (by omega), zup1_ne (by omega)]
  have ea7 : gAdd g B (g (B + (73 + 2 * 0 + 0))) (g (B + (73 + 2 * 0 + 1))) (g (B + 10)) (B + 7) = g (B + 7) + 1 := zup1_eq rfl
  have eag : ∀ j, j < B → gAdd g B (g (B + (73 + 2 * 0 + 0))) (g (B + (73 + 2 * 0 + 1))) (g (B + 10)) j = g j := fun j _ => by
    unfold gAdd
    rw [zup1_ne (by omega), zup1_ne (by omega), zup1_ne (by omega), zup1_ne (by omega), zup1_ne (by omega)]
  have eal : ∀ c, 0 ≤ c → c < 4 → gAdd g B (g (B + (73 + 2 * 0 + 0))) (g (B + (73 + 2 * 0 + 1))) (g (B + 10)) (B + (17 + 4 * g (B + 7) + c)) = if c = 0 then g (B + (73 + 2 * 0 + 0)) else if c = 1 then g (B + (73 + 2 * 0 + 1)) else if c = 2 then g (B + 10) else 0 := by
    intro c c0 c4
    unfold gAdd
    rcases (by omega : c = 0 ∨ c = 1 ∨ c = 2 ∨ c = 3) with rfl | rfl | rfl | rfl <;> simp (disch := omega) only [zup1_ne, zup1_eq] <;> rfl
  generalize gAdd g B (g (B + (73 + 2 * 0 + 0))) (g (B + (73 + 2 * 0 + 1))) (g (B + 10)) = G1 at *
  have hrG : rLR G1 B := by
    unfold rLR
    rw [ea 0 (by omega) (by omega), ea 1 (by omega) (by omega), ea 2 (by omega) (by omega), ea 3 (by omega) (by omega), ea 4 (by omega) (by omega), ea 5 (by omega) (by omega), ea 6 (by omega) (by omega), ea 8 (by omega) (by omega), ea 9 (by omega) (by omega), ea 10 (by omega) (by omega), ea 11 (by omega) (by omega), ea 12 (by omega) (by omega), ea 13 (by omega) (by omega), ea 14 (by omega) (by omega), ea 15 (by omega) (by omega), ea 16 (by omega) (by omega), ea7]
    exact ⟨h_0, h_1, h_2, h_3, h_4, h_5, h_6, by omega, h_8, h_9, h_10, h_11, h_12, h_13, h_14, h_15, h_16⟩
  have a6 := ea 6 (by omega) (by omega)
  obtain ⟨f2, r2, h2, fr2⟩ := c_dropQ (q := q) (d := d) (σ := (f1, σ.2)) n4 hrG (by omega) h1
  have eq : ∀ j, j < 73 → j ≠ 6 → gQ G1 B (B + j) = G1 (B + j) := fun j _ _ => by
    unfold gQ
    rw [zup1_ne (by omega), msh_out (by omega)]
  have eq6 : gQ G1 B (B + 6) = g (B + 6) - 1 := (zup1_eq rfl).trans (by omega)
  have eqg : ∀ j, j < B → gQ G1 B j = g j := fun j _ => by
    unfold gQ
    rw [zup1_ne (by omega), msh_out (by omega)]
    exact eag j (by omega)
  generalize gQ G1 B = G2 at *
  have f212 : f2 b 12 = g (B + 10) := (zc_f12 h2).trans ((eq 10 (by decide) (by decide)).trans (ea 10 (by decide) (by decide)))
  have h3 : zLC n (zup f2 b 12 (zrem (g (B + 10) + 1) 16)) b (zup1 G2 (B + 10) (zrem (g (B + 10) + 1) 16)) B := zu_12 h2
  have e3 : ∀ j, j < 73 → j ≠ 10 → zup1 G2 (B + 10) (zrem (g (B + 10) + 1) 16) (B + j) = G2 (B + j) := fun j _ _ => zup1_ne (by omega)
  have e3g : zup1 G2 (B + 10) (zrem (g (B + 10) + 1) 16) 4 = g 4 := (zup1_ne (by omega)).trans (eqg 4 (by omega))
  generalize zup1 G2 (B + 10) (zrem (g (B + 10) + 1) 16) = G3 at *
  have t9 : G3 (B + 9) = g (B + 9) := (e3 9 (by decide) (by decide)).trans ((eq 9 (by decide) (by decide)).trans (ea 9 (by decide) (by decide)))
  have t0 : G3 (B + 0) = g (B + 0) := (e3 0 (by decide) (by decide)).trans ((eq 0 (by decide) (by decide)).trans (ea 0 (by decide) (by decide)))
  have t7 : G3 (B + 7) = g (B + 7) + 1 := (e3 7 (by decide) (by decide)).trans ((eq 7 (by decide) (by decide)).trans ea7)
  have t6 : G3 (B + 6) = g (B + 6) - 1 := (e3 6 (by decide) (by decide)).trans eq6
  have t12 : G3 (B + 12) = g (B + 12) := (e3 12 (by decide) (by decide)).trans ((eq 12 (by decide) (by decide)).trans (ea 12 (by decide) (by decide)))
  have t2 : G3 (B + 2) = g (B + 2) := (e3 2 (by decide) (by decide)).trans ((eq 2 (by decide) (by decide)).trans (ea 2 (by decide) (by decide)))
  have tl : ∀ c, 0 ≤ c → c < 4 → G3 (B + (17 + 4 * g (B + 7) + c)) = if c = 0 then g (B + (73 + 2 * 0 + 0)) else if c = 1 then g (B + (73 + 2 * 0 + 1)) else if c = 2 then g (B + 10) else 0 := fun c c0 c4 => (e3 _ (by omega) (by omega)).trans ((eq _ (by omega) (by omega)).trans (eal c c0 c4))
  have tl1 := tl 1 (by decide) (by decide)
  have tl3 := tl 3 (by decide) (by decide)
  rw [if_neg (by decide), if_pos rfl] at tl1
  rw [if_neg (by decide), if_neg (by decide), if_neg (by decide)] at tl3
  have h36 : zup f2 b 12 (zrem (g (B + 10) + 1) 16) W 6 = G3 4 := by
    rw [zup_na (by omega), fr2 W 6 (by omega), e3g]
    exact (fr1 W 6 (by omega)).trans h6
  obtain ⟨f4, r4, hf4, fr4⟩ := c_tellFacts (q := q) (d := d) (σ := (zup f2 b 12 (zrem (g (B + 10) + 1) 16), σ.2)) hB hb h3 h36 (by omega)
  have h4 : zLC n f4 b G3 B := zLC_fr (fun o k _ _ => fr4 o k (by omega)) h3
  have u4 : f4 b 4 = G3 (B + 0) := zc_f4 h4
  have u7 : f4 (b + 6) 4 = G3 (B + 7) := h4.2.2.1
  have u3 : f4 (b + 10) (g (B + 7)) = G3 (B + (17 + 4 * g (B + 7) + 3)) := h4.2.2.2.1 _ 3 h_7.1 (by omega) (by decide) (by decide)
  obtain ⟨f5, r5, h5, hf5, fr5⟩ := cs_tail (q := q) (d := d + 1) (σ := (f4, σ.2)) (l := l) (g0 := G3) (fo := G3 (B + 9)) (m := g (B + 7)) (x3 := x3) (x4 := 1) (x6 := 0) hb h4 h_7.1 (by omega) (by omega) hf4 (by rw [tl1]; exact hln.1)
  refine ⟨f5, ?_, ?_, fun i i0 i1 => ?_, fun o k a1 a2 => ?_⟩
  · rw [zb_Wor_send_22]
    simp only [Int.add_assoc, Int.reduceAdd]
    rw [s_at (by omega) (by omega), zK_i, zb_Wor_send_29]
    simp only [Int.add_assoc, Int.reduceAdd]
    rw [s_at (by omega) (by omega), zK_i, zb_Wor_send_34, q2, q3, q12, r1, zK_i, zb_Wor_send_37, r2, zK_v, zb_Wor_send_42]
    show zG [16] (zD (true, q) (d + 1 + 1) zc_Wor_send (zat zc_Wor_send 49) _ [(0, zrem (zw (f2 b 12 + 1)) 16, 0), (13, b, 0)] (f2, σ.2)) = _
    rw [f212, zw_id (by omega) (by omega), zG1 (by decide), zb_Wor_send_49, r4, zK_v, zb_Wor_send_73, if_neg (show ¬f4 b 4 ≠ 2 by omega), zb_Wor_send_77, if_pos (show f4 (b + 6) 4 ≠ 0 by omega), zb_Wor_send_83, if_neg (by decide), zb_Wor_send_85]
    simp only [Int.add_assoc, Int.reduceAdd, u7, t7]
    rw [zw_id (by omega) (by omega), Int.add_sub_cancel, s_at (by omega) (by omega), zK_i]
    show zD (true, q) (d + 2) zc_Wor_send (zat zc_Wor_send 99) _ [(0, f4 (b + 10) (g (B + 7)), 0)] (f4, σ.2) = _
    rw [u3, tl3]
    refine r5.trans ?_
    rw [zb_Wor_send_131, if_pos (by decide), zb_Wor_send_135]
  · have hz : zw (0 + 1) = 1 := by decide
    rw [hz] at h5
    have hr3 : rLR G3 B := by
      have q10 : 0 ≤ G3 (B + 10) ∧ G3 (B + 10) ≤ 15 := by
        rw [← zc_f12 h4, fr4 b 12 (by omega)]
        show 0 ≤ zup f2 b 12 _ b 12 ∧ zup f2 b 12 _ b 12 ≤ 15
        rw [zupE rfl rfl]
        exact zrem16 (by omega)
      have hz3 : ∀ j, 0 ≤ j → j < 17 → j ≠ 6 → j ≠ 7 → j ≠ 10 → G3 (B + j) = g (B + j) := fun j _ _ _ _ _ => (e3 j (by omega) (by omega)).trans ((eq j (by omega) (by omega)).trans (ea j (by omega) (by omega)))
      unfold rLR
      rw [hz3 0 (by omega) (by omega) (by omega) (by omega) (by omega), hz3 1 (by omega) (by omega) (by omega) (by omega) (by omega), hz3 2 (by omega) (by omega) (by omega) (by omega) (by omega), hz3 3 (by omega) (by omega) (by omega) (by omega) (by omega), hz3 4 (by omega) (by omega) (by omega) (by omega) (by omega), hz3 5 (by omega) (by omega) (by omega) (by omega) (by omega), hz3 8 (by omega) (by omega) (by omega) (by omega) (by omega), hz3 9 (by omega) (by omega) (by omega) (by omega) (by omega), hz3 11 (by omega) (by omega) (by omega) (by omega) (by omega), hz3 12 (by omega) (by omega) (by omega) (by omega) (by omega), hz3 13 (by omega) (by omega) (by omega) (by omega) (by omega), hz3 14 (by omega) (by omega) (by omega) (by omega) (by omega), hz3 15 (by omega) (by omega) (by omega) (by omega) (by omega), hz3 16 (by omega) (by omega) (by omega) (by omega) (by omega), t6, t7]
      exact ⟨h_0, h_1, h_2, h_3, h_4, h_5, by omega, by omega, h_8, h_9, q10, h_11, h_12, h_13, h_14, h_15, h_16⟩
    exact zLC_eq hlE (rLR_eq0 (fun j _ _ => zup1_ne (by omega)) hr3) n4 h5
  · rw [hf5 i i0 i1, if_pos (by decide), tl1, t9]
    subst hB
    have hnew : ∀ j, 10 + 265 * l ≤ j → j < 10 + 265 * l + 265 → j ≠ 10 + 265 * l + (17 + 4 * g (10 + 265 * l + 7) + 3) → rNew g (10 + 265 * l) j = G3 j := fun j a1 a2 a3 => by
      rw [hlE j a1 a2, zup1_ne a3]
    refine congrFun (rFact_ne ?_ ?_ ?_ ?_ ?_) i
    · exact (hnew _ (by omega) (by omega) (by omega)).symm
    · exact (hnew _ (by omega) (by omega) (by omega)).symm
    · exact (hnew _ (by omega) (by omega) (by omega)).symm
    · exact (hnew _ (by omega) (by omega) (by omega)).symm
    · rw [e3g, rNew_out n0 h_6.2 h_7.1 k8 (by omega)]
  · rw [fr5 o k a1 a2]
    show f4 o k = _
    rw [fr4 o k a2]
    show zup f2 b 12 _ o k = _
    rw [zup_na (by omega), fr2 o k a1]
    exact fr1 o k a1
