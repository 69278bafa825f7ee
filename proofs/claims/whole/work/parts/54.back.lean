/-! ## the class: what comes back -/
theorem zup1_id {g : Int → Int} {k v : Int} (h : g k = v) : zup1 g k v = g := by
  funext j
  by_cases c : j = k
  · rw [zup1_eq c, c, h]
  · rw [zup1_ne c]
theorem zup1_comm {g : Int → Int} {k v k2 v2 : Int} (h : k ≠ k2) : zup1 (zup1 g k v) k2 v2 = zup1 (zup1 g k2 v2) k v := by
  funext j
  by_cases c : j = k
  · rw [zup1_ne (by omega), zup1_eq c, zup1_eq c]
  · by_cases c2 : j = k2
    · rw [zup1_eq c2, zup1_ne c, zup1_eq c2]
    · rw [zup1_ne c2, zup1_ne c, zup1_ne c, zup1_ne c2]
theorem rRep3_id {h : Int → Int} {B : Int} (hH : (h (B + 8) = 0 ∨ h (B + 8) < h (B + 7)) ∧ (h (B + 7) = 0 → h (B + 9) = 0)) : rRep3 h B = h := by
  have e : (if h (B + 7) = 0 then zup1 h (B + 9) 0 else h) = h := by
    split
    · exact zup1_id (hH.2 ‹_›)
    · rfl
  unfold rRep3
  rw [e]
  unfold rWraps
  split
  · rfl
  · exact zup1_id (by omega)
theorem zLC_rep1 {n : Int} {f : Int → Int → Int} {b : Int} {g : Int → Int} {B : Int} (p1 : 1 ≤ g (B + 2)) (p4 : g (B + 2) ≤ 4) (k8 : g (B + 7) ≤ 8) (n4 : n ≤ 4) (h : zLC n f b g B) : zLC n (zup (zcpy f (b + 17) 1 (b + 17) 0 3) (b + 17) (g (B + 2) - 1) (g (B + 11))) b (rRep1 g B) B := by
  obtain ⟨h1, h2, h3, h4, h5, h6, h7⟩ := h
  have e : ∀ j, (j < 69 ∨ 73 ≤ j) → rRep1 g B (B + j) = g (B + j) := fun j _ => rRep1_out p1 p4 (by omega)
  refine ⟨fun c c0 c1 => ?_, ?_, ?_, fun k c k0 k1 c0 c1 => ?_, fun k c k0 k1 c0 c1 => ?_, fun k k0 k1 => ?_, fun k k0 k1 => ?_⟩
  · rw [e _ (by unfold zfm; split <;> omega), ← h1 c c0 c1]
    simp (disch := omega) only [zcpy_na, zup_na]
  · rw [e _ (by omega), ← h2]
    simp (disch := omega) only [zcpy_na, zup_na]
  · rw [e _ (by omega), ← h3]
    simp (disch := omega) only [zcpy_na, zup_na]
  · rw [e _ (by omega)] at k1
    rw [e _ (by omega), ← h4 k c k0 k1 c0 c1]
    simp (disch := omega) only [zcpy_na, zup_na]
  · rw [e _ (by omega)] at k1
    rw [e _ (by omega), ← h5 k c k0 k1 c0 c1]
    simp (disch := omega) only [zcpy_na, zup_na]
  · rw [e _ (by omega), e _ (by omega), e _ (by omega), e _ (by omega), e _ (by omega)]
    simp (disch := omega) only [zcpy_na, zup_na]
    exact h6 k k0 k1
  · rw [e 2 (by omega)] at k1
    rw [rRep1_at p1 p4 k0 (by omega)]
    by_cases c : k < g (B + 2) - 1
    · rw [if_pos c, ← h7 (k + 1) (by omega) (by omega), zup_nk (by omega), zcpy_in rfl k0 (by omega)]
      exact congrArg (f (b + 17)) (by omega)
    · rw [if_neg c, if_pos (by omega), zupE rfl (by omega)]
theorem c_comeBack {q : Int × (Int → Int)} {d : Nat} {σ : zS} {N n b : Int} {g : Int → Int} {B : Int} (n4 : n ≤ 4) (hI : zIL N g B) (hs : g (B + 0) = 2) (h : zLC n σ.1 b g B) : ∃ f2, zM (true, q) (d + 2) 119 [(13, b, 0)] σ = some ((9, 0, 0), (f2, σ.2)) ∧ zLC n f2 b (rHas g B) B ∧ zFb b σ.1 f2 := by
  obtain ⟨h_0, h_1, h_2, h_3, h_4, h_5, h_6, h_7, h_8, h_9, h_10, h_11, h_12, h_13, h_14, h_15, h_16⟩ := id hI.1
  have f6 := zc_f6 h
  have f13 := zc_f13 h
  have hx : σ.1 (b + 17) 0 = g (B + 69) := h.2.2.2.2.2.2 0 (by decide) (by omega)
  have h1 := zLC_rep1 h_2.1 h_2.2 h_7.2 n4 h
  have fr1 : zFb b σ.1 (zup (zcpy σ.1 (b + 17) 1 (b + 17) 0 3) (b + 17) (g (B + 2) - 1) (g (B + 11))) := zFb_trans (zFb_cp (by omega)) (zFb_up (by omega))
  have i1 := zLI_rep1 hI
  have e : ∀ j, (j < 69 ∨ 73 ≤ j) → rRep1 g B (B + j) = g (B + j) := fun j _ => rRep1_out h_2.1 h_2.2 (by omega)
  have hrun : zM (true, q) (d + 2) 119 [(13, b, 0)] σ = zD (true, q) (d + 2) zc_Lin_comeBack (zat zc_Lin_comeBack 18) [(13, b, 0), (0, g (B + 69), 0), (2, 0, 0)] [] (zup (zcpy σ.1 (b + 17) 1 (b + 17) 0 3) (b + 17) (g (B + 2) - 1) (g (B + 11)), σ.2) := by
    rw [ze_Lin_comeBack, zb_Lin_comeBack_0]
    try simp (disch := omega) only [Int.reduceAdd, Int.add_assoc, Int.zero_add]
    rw [s_at (by omega) (by omega), zK_i, zb_Lin_comeBack_4]
    try simp (disch := omega) only [Int.reduceAdd, Int.add_assoc, Int.zero_add]
    rw [s_shiftRow (by omega) (by omega) (by omega), zK_v, zb_Lin_comeBack_9]
    try simp (disch := omega) only [zw_id, Int.reduceAdd, Int.add_assoc, Int.zero_add]
    rw [s_put (by simp (disch := omega) only [zcpy_na, zw_id]; omega) (by simp (disch := omega) only [zcpy_na, zw_id]; omega), zK_v]
    simp (disch := omega) only [zcpy_na, f6, f13, hx, Int.reduceSub, zw_id]
  rw [hrun]
  generalize zup (zcpy σ.1 (b + 17) 1 (b + 17) 0 3) (b + 17) (g (B + 2) - 1) (g (B + 11)) = f1 at h1 fr1 ⊢
  unfold rHas
  by_cases c : g (B + 69) = -1
  · refine ⟨f1, ?_, ?_, fr1⟩
    · rw [zb_Lin_comeBack_18, if_neg (fun z => z c), zb_Lin_comeBack_21]
    · unfold rRep2
      rw [if_pos c, rRep3_id ⟨i1.2.2.1.1, i1.2.2.1.2.1⟩]
      exact h1
  · have ha := rAhead_rng (g := rRep1 g B) (B := B) (n := g (B + 69)) (by rw [e 7 (by omega)]; exact h_7.1)
    have e7 := e 7 (by omega)
    have e8 := e 8 (by omega)
    have hH := hI.2.2.1
    have ht := c_told (q := q) (d := d) (σ := (f1, σ.2)) (m := g (B + 69)) h1 (by rw [e7]; exact h_7)
    obtain ⟨f2, hd, h2, fr2⟩ := c_drop (q := q) (d := d) (σ := (f1, σ.2)) h1 ha.1 ha.2 (by omega) n4
    have f10 := zc_f10 h2
    have k7 := h2.2.2.1
    have l8 : rLeaves (rRep1 g B) B (rAhead (rRep1 g B) B (g (B + 69))) (B + 8) = g (B + 8) := (rLeaves_out (by omega) (by omega)).trans e8
    have l7 : rLeaves (rRep1 g B) B (rAhead (rRep1 g B) B (g (B + 69))) (B + 7) = g (B + 7) - rAhead (rRep1 g B) B (g (B + 69)) := rLeaves_7.trans (by rw [e7])
    rw [zb_Lin_comeBack_18, if_pos c, zb_Lin_comeBack_22, ht, zK_i, zb_Lin_comeBack_25, hd, zK_v]
    unfold rRep2
    rw [if_neg c, e8]
    generalize rAhead (rRep1 g B) B (g (B + 69)) = m at *
    generalize rLeaves (rRep1 g B) B m = G at *
    have fin : ∀ v, 0 ≤ v → v = (if 0 ≤ g (B + 8) - m then g (B + 8) - m else 0) → ∃ f3, (if (zup f2 b 10 v) (b + 6) 4 ≠ 0 then zD (true, q) (d + 2) zc_Lin_comeBack (zat zc_Lin_comeBack 52) [(13, b, 0), (0, g (B + 69), 0), (0, m, 0)] [] (zup f2 b 10 v, σ.2) else zD (true, q) (d + 2) zc_Lin_comeBack (zat zc_Lin_comeBack 46) [(13, b, 0), (0, g (B + 69), 0), (0, m, 0)] [] (zup f2 b 10 v, σ.2)) = some ((9, 0, 0), (f3, σ.2)) ∧ zLC n f3 b (rRep3 (zup1 G (B + 8) v) B) B ∧ zFb b σ.1 f3 := by
      intro v v0 hv
      have frv := zFb_trans fr1 (zFb_trans fr2 (zFb_up (c := 10) (v := v) (show b ≤ b ∧ b < b + 18 by omega)))
      rw [zup_na (by omega), k7]
      by_cases ck : G (B + 7) = 0
      · rw [if_neg (fun z => z ck), zb_Lin_comeBack_46, zG2 (by omega) (by omega), zb_Lin_comeBack_52]
        refine ⟨_, rfl, ?_, zFb_trans frv (zFb_trans (zFb_up (by omega)) (zFb_up (by omega)))⟩
        have e3 : rRep3 (zup1 G (B + 8) v) B = zup1 (zup1 (zup1 G (B + 8) v) (B + 8) 0) (B + 9) 0 := by
          unfold rRep3
          rw [if_pos (by rw [zup1_ne (by omega)]; exact ck)]
          unfold rWraps
          rw [if_neg (by rw [zup1_ne (by omega), zup1_eq rfl, zup1_ne (by omega), zup1_ne (by omega)]; omega), zup1_comm (by omega)]
        rw [e3]
        exact zu_11 (zu_10 (zu_10 h2))
      · rw [if_pos ck, zb_Lin_comeBack_52]
        refine ⟨_, rfl, ?_, frv⟩
        rw [rRep3_id]
        · exact zu_10 h2
        · rw [zup1_eq rfl, zup1_ne (by omega), zup1_ne (by omega)]
          refine ⟨Or.inr ?_, fun z => absurd z ck⟩
          have := hH.1
          split at hv <;> omega
    by_cases ch : g (B + 8) ≤ m
    · rw [zb_Lin_comeBack_30, if_pos (show f2 b 10 ≤ m by omega), zb_Lin_comeBack_40]
      obtain ⟨f3, r1, r2, r3⟩ := fin 0 (by decide) (by split <;> omega)
      refine ⟨f3, r1, ?_, r3⟩
      rw [show (if 0 ≤ g (B + 8) - m then g (B + 8) - m else 0) = 0 by split <;> omega]
      exact r2
    · rw [zb_Lin_comeBack_30, if_neg (show ¬f2 b 10 ≤ m by omega), zb_Lin_comeBack_35]
      obtain ⟨f3, r1, r2, r3⟩ := fin (zw (f2 b 10 - m)) (by rw [zw_id (by omega) (by omega)]; omega) (by rw [zw_id (by omega) (by omega)]; split <;> omega)
      refine ⟨f3, r1, ?_, r3⟩
      rw [show (if 0 ≤ g (B + 8) - m then g (B + 8) - m else 0) = zw (f2 b 10 - m) by rw [zw_id (by omega) (by omega)]; split <;> omega]
      exact r2
