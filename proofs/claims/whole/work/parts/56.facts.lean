/-! ## the class: facts, hand, add, drop -/
def zFW (W b : Int) (f f2 : Int → Int → Int) : Prop := ∀ o k, (o < b ∨ b + 18 ≤ o) → o ≠ W + 20 → o ≠ W + 21 → o ≠ W + 22 → f2 o k = f o k
theorem zFW_trans {W b : Int} {f f2 f3 : Int → Int → Int} (h : zFW W b f f2) (h2 : zFW W b f2 f3) : zFW W b f f3 := fun o k a1 a2 a3 a4 => (h2 o k a1 a2 a3 a4).trans (h o k a1 a2 a3 a4)
theorem zFW_b {W b : Int} {f f2 : Int → Int → Int} (h : zFb b f f2) : zFW W b f f2 := fun o k a1 _ _ _ => h o k a1
theorem zFW_w {W b : Int} {f f2 : Int → Int → Int} (h : ∀ o k, o ≠ W + 20 → o ≠ W + 21 → o ≠ W + 22 → f2 o k = f o k) : zFW W b f f2 := fun o k _ a2 a3 a4 => h o k a2 a3 a4
theorem c_tellFacts {q : Int × (Int → Int)} {d : Nat} {σ : zS} {n W l b : Int} {g : Int → Int} {B : Int} (hB : B = 10 + 265 * l) (hb : W + 23 ≤ b) (h : zLC n σ.1 b g B) (h6 : σ.1 W 6 = g 4) (h9 : g (B + 9) = 0 ∨ g (B + 9) = 1) : ∃ f2, zM (true, q) (d + 1) 109 [(18, W, 0), (0, l, 0), (13, b, 0)] σ = some ((9, 0, 0), (f2, σ.2)) ∧ (∀ i, 0 ≤ i → i < 10 → f2 (W + 22) i = rFact g l 0 (g (B + 9)) 0 i) ∧ (∀ o k, o ≠ W + 22 → f2 o k = σ.1 o k) := by
  have k1 := h.2.1
  have k2 := h.2.2.1
  have f6 := zc_f6 h
  have f11 := zc_f11 h
  have f14 := zc_f14 h
  refine ⟨zup (zup (zup (zup (zup (zup (zup (zup (zup (zup σ.1 (W + 22) 0 l) (W + 22) 1 0) (W + 22) 2 (g (B + 7))) (W + 22) 3 (g (B + 6))) (W + 22) 4 (g (B + 12))) (W + 22) 5 (g (B + 2))) (W + 22) 6 (zrem (g 4) 100)) (W + 22) 7 1) (W + 22) 8 (g (B + 9))) (W + 22) 9 0, ?_, fun i i0 i1 => ?_, fun o k ho => ?_⟩
  · by_cases c : g (B + 9) = 0
    · rw [c]
      rw [ze_Wor_tellFacts, zb_Wor_tellFacts_0]
      try simp (disch := omega) only [Int.reduceAdd, Int.add_assoc, Int.zero_add]
      rw [s_put (by omega) (by omega), zK_v, zb_Wor_tellFacts_5]
      try simp (disch := omega) only [Int.reduceAdd, Int.add_assoc, Int.zero_add]
      rw [s_put (by omega) (by omega), zK_v, zb_Wor_tellFacts_10]
      try simp (disch := omega) only [Int.reduceAdd, Int.add_assoc, Int.zero_add]
      rw [s_put (by omega) (by omega), zK_v, zb_Wor_tellFacts_17]
      try simp (disch := omega) only [Int.reduceAdd, Int.add_assoc, Int.zero_add]
      rw [s_put (by omega) (by omega), zK_v, zb_Wor_tellFacts_24]
      try simp (disch := omega) only [Int.reduceAdd, Int.add_assoc, Int.zero_add]
      rw [s_put (by omega) (by omega), zK_v, zb_Wor_tellFacts_30]
      try simp (disch := omega) only [Int.reduceAdd, Int.add_assoc, Int.zero_add]
      rw [s_put (by omega) (by omega), zK_v, zb_Wor_tellFacts_36]
      try simp (disch := omega) only [Int.reduceAdd, Int.add_assoc, Int.zero_add]
      rw [zG1 (by omega), zb_Wor_tellFacts_43, s_put (by omega) (by omega), zK_v, zb_Wor_tellFacts_44]
      try simp (disch := omega) only [Int.reduceAdd, Int.add_assoc, Int.zero_add]
      rw [s_put (by omega) (by omega), zK_v, zb_Wor_tellFacts_49, if_pos (by first | omega | (simp (disch := omega) only [zupE, zup_nk, zup_na, zcpy_na]; omega))]
      try simp (disch := omega) only [Int.reduceAdd, Int.add_assoc, Int.zero_add]
      rw [zb_Wor_tellFacts_57, s_put (by omega) (by omega), zK_v, zb_Wor_tellFacts_59]
      try simp (disch := omega) only [Int.reduceAdd, Int.add_assoc, Int.zero_add]
      rw [s_put (by omega) (by omega), zK_v, zb_Wor_tellFacts_64]
      simp (disch := omega) only [zup_na, k1, k2, f6, f11, f14, h6, c]
    · have c1 : g (B + 9) = 1 := by omega
      rw [c1]
      rw [ze_Wor_tellFacts, zb_Wor_tellFacts_0]
      try simp (disch := omega) only [Int.reduceAdd, Int.add_assoc, Int.zero_add]
      rw [s_put (by omega) (by omega), zK_v, zb_Wor_tellFacts_5]
      try simp (disch := omega) only [Int.reduceAdd, Int.add_assoc, Int.zero_add]
      rw [s_put (by omega) (by omega), zK_v, zb_Wor_tellFacts_10]
      try simp (disch := omega) only [Int.reduceAdd, Int.add_assoc, Int.zero_add]
      rw [s_put (by omega) (by omega), zK_v, zb_Wor_tellFacts_17]
      try simp (disch := omega) only [Int.reduceAdd, Int.add_assoc, Int.zero_add]
      rw [s_put (by omega) (by omega), zK_v, zb_Wor_tellFacts_24]
      try simp (disch := omega) only [Int.reduceAdd, Int.add_assoc, Int.zero_add]
      rw [s_put (by omega) (by omega), zK_v, zb_Wor_tellFacts_30]
      try simp (disch := omega) only [Int.reduceAdd, Int.add_assoc, Int.zero_add]
      rw [s_put (by omega) (by omega), zK_v, zb_Wor_tellFacts_36]
      try simp (disch := omega) only [Int.reduceAdd, Int.add_assoc, Int.zero_add]
      rw [zG1 (by omega), zb_Wor_tellFacts_43, s_put (by omega) (by omega), zK_v, zb_Wor_tellFacts_44]
      try simp (disch := omega) only [Int.reduceAdd, Int.add_assoc, Int.zero_add]
      rw [s_put (by omega) (by omega), zK_v, zb_Wor_tellFacts_49, if_neg (by first | omega | (simp (disch := omega) only [zupE, zup_nk, zup_na, zcpy_na]; omega))]
      try simp (disch := omega) only [Int.reduceAdd, Int.add_assoc, Int.zero_add]
      rw [zb_Wor_tellFacts_55, s_put (by omega) (by omega), zK_v, zb_Wor_tellFacts_59]
      try simp (disch := omega) only [Int.reduceAdd, Int.add_assoc, Int.zero_add]
      rw [s_put (by omega) (by omega), zK_v, zb_Wor_tellFacts_64]
      simp (disch := omega) only [zup_na, k1, k2, f6, f11, f14, h6, c1]
  · unfold rFact
    rw [← hB]
    rcases (by omega : i = 0 ∨ i = 1 ∨ i = 2 ∨ i = 3 ∨ i = 4 ∨ i = 5 ∨ i = 6 ∨ i = 7 ∨ i = 8 ∨ i = 9) with rfl | rfl | rfl | rfl | rfl | rfl | rfl | rfl | rfl | rfl <;> simp (disch := omega) only [zupE, zup_nk] <;> rfl
  · rw [zup_na ho, zup_na ho, zup_na ho, zup_na ho, zup_na ho, zup_na ho, zup_na ho, zup_na ho, zup_na ho, zup_na ho]
theorem c_fitsR {q : Int × (Int → Int)} {d : Nat} {σ : zS} {n b : Int} {g : Int → Int} {B : Int} (hr : rLR g B) (hL : rLL g B) (h : zLC n σ.1 b g B) : zM (true, q) (d + 2) 103 [(13, b, 0)] σ = some ((0, if 0 < g (B + 6) ∧ rFits g B = true then 1 else 0, 0), σ) := by
  obtain ⟨h_0, h_1, h_2, h_3, h_4, h_5, h_6, h_7, h_8, h_9, h_10, h_11, h_12, h_13, h_14, h_15, h_16⟩ := id hr
  have k1 := h.2.1
  have k2 := h.2.2.1
  have f7 := zc_f7 h
  have f8 := zc_f8 h
  have kl : ∀ k, 0 ≤ k → k < g (B + 7) → σ.1 (b + 8) k = g (B + (17 + 4 * k + 1)) := fun k a0 a1 => h.2.2.2.1 k 1 a0 a1 (by decide) (by decide)
  have ql : 0 < g (B + 6) → σ.1 (b + 3) 0 = g (B + (73 + 2 * 0 + 1)) := fun a => h.2.2.2.2.1 0 1 (by decide) a (by decide) (by decide)
  have hc := c_fits (q := q) (d := d) (σ := σ) (b := b) (by omega) (by omega) (fun k a0 a1 => by rw [kl k a0 (by omega)]; have := hL.1 k a0 (by omega); omega) (fun a => by rw [ql (by omega)]; have := hL.2 0 (by decide) (by omega); omega)
  rw [hc, k1, k2, f7, f8, zsum_congr (h := fun k => g (B + (17 + 4 * k + 1))) _ _ (fun k a0 a1 => kl k a0 (by omega))]
  unfold rFits
  simp only [decide_eq_true_eq]
  by_cases c : 0 < g (B + 6)
  · rw [ql c, Int.add_comm (g (B + (73 + 2 * 0 + 1)))]
  · rw [if_neg (fun z => c z.1), if_neg (fun z => c z.1)]
theorem c_addB {q : Int × (Int → Int)} {d : Nat} {σ : zS} {n b : Int} {g : Int → Int} {B s len num : Int} (k0 : 0 ≤ g (B + 7)) (k8 : g (B + 7) < 8) (h : zLC n σ.1 b g B) : ∃ f2, zM (true, q) (d + 1) 50 [(16, b + 6, 8), (0, s, 0), (0, len, 0), (0, num, 0)] σ = some ((0, 1, 0), (f2, σ.2)) ∧ zLC n f2 b (gAdd g B s len num) B ∧ zFb b σ.1 f2 := by
  have k2 := h.2.2.1
  have e8 := zNL8
  refine ⟨_, ?_, zLC_add (s := s) (len := len) (num := num) k0 k8 h, zFb_trans (zFb_up (by omega)) (zFb_trans (zFb_up (by omega)) (zFb_trans (zFb_up (by omega)) (zFb_trans (zFb_up (by omega)) (zFb_up (by omega)))))⟩
  rw [ze_Uni_add, zb_Uni_add_0, if_neg (by first | omega | (simp (disch := omega) only [zupE, zup_nk, zup_na, zcpy_na]; omega)), zb_Uni_add_3, if_pos (by first | omega | (simp (disch := omega) only [zupE, zup_nk, zup_na, zcpy_na]; omega)), zb_Uni_add_11]
  try simp (disch := omega) only [Int.reduceAdd, Int.add_assoc, Int.zero_add]
  rw [s_put (by first | omega | (simp (disch := omega) only [zup_na]; omega)) (by first | omega | (simp (disch := omega) only [zup_na]; omega)), zK_v, zb_Uni_add_17]
  try simp (disch := omega) only [Int.reduceAdd, Int.add_assoc, Int.zero_add]
  rw [s_put (by first | omega | (simp (disch := omega) only [zup_na]; omega)) (by first | omega | (simp (disch := omega) only [zup_na]; omega)), zK_v, zb_Uni_add_23]
  try simp (disch := omega) only [Int.reduceAdd, Int.add_assoc, Int.zero_add, zNL8, zNL96]
  rw [s_put (by first | omega | (simp (disch := omega) only [zup_na]; omega)) (by first | omega | (simp (disch := omega) only [zup_na]; omega)), zK_v, zb_Uni_add_29]
  try simp (disch := omega) only [Int.reduceAdd, Int.add_assoc, Int.zero_add, zNL8, zNL96]
  rw [s_put (by first | omega | (simp (disch := omega) only [zup_na]; omega)) (by first | omega | (simp (disch := omega) only [zup_na]; omega)), zK_v, zb_Uni_add_35]
  try simp (disch := omega) only [zw_id]
  rw [zG2 (by omega) (by omega)]
  try simp (disch := omega) only [zw_id]
  simp (disch := omega) only [zup_na, zw_id, k2]
theorem c_dropQ {q : Int × (Int → Int)} {d : Nat} {σ : zS} {n b : Int} {g : Int → Int} {B : Int} (n4 : n ≤ 4) (hr : rLR g B) (q0 : 0 < g (B + 6)) (h : zLC n σ.1 b g B) : ∃ f2, zM (true, q) (d + 1) 118 [(16, b + 1, 96), (0, 1, 0)] σ = some ((9, 0, 0), (f2, σ.2)) ∧ zLC n f2 b (gQ g B) B ∧ zFb b σ.1 f2 := by
  have k1 := h.2.1
  have h6 := hr.2.2.2.2.2.2.1
  have e96 := zNL96
  refine ⟨_, ?_, zLC_q n4 hr q0 h, zFb_trans (zFb_cp (by omega)) (zFb_trans (zFb_cp (by omega)) (zFb_up (by omega)))⟩
  by_cases c : g (B + 6) = 1
  · rw [c] at k1 ⊢
    rw [ze_Uni_dropFirst, zb_Uni_dropFirst_0, if_pos (by first | omega | (simp (disch := omega) only [zupE, zup_nk, zup_na, zcpy_na]; omega)), zb_Uni_dropFirst_6]
    try simp (disch := omega) only [Int.reduceAdd, Int.add_assoc, Int.zero_add]
    rw [s_shiftRow (by omega) (by omega) (by omega), zK_v, zb_Uni_dropFirst_13]
    try simp (disch := omega) only [Int.reduceAdd, Int.add_assoc, Int.zero_add]
    rw [s_shiftRow (by omega) (by omega) (by omega), zK_v, zb_Uni_dropFirst_17]
    try simp (disch := omega) only [Int.reduceAdd, Int.add_assoc, Int.zero_add, zNL8, zNL96]
    rw [s_shiftRow0 (by omega), zK_v, zb_Uni_dropFirst_21]
    try simp (disch := omega) only [Int.reduceAdd, Int.add_assoc, Int.zero_add, zNL8, zNL96]
    rw [s_shiftRow0 (by omega), zK_v, zb_Uni_dropFirst_25]
    try simp (disch := omega) only [zw_id]
    simp (disch := omega) only [zcpy_na, zw_id, k1, Int.reduceSub]
  ·
    rw [ze_Uni_dropFirst, zb_Uni_dropFirst_0, if_neg (by first | omega | (simp (disch := omega) only [zupE, zup_nk, zup_na, zcpy_na]; omega)), zb_Uni_dropFirst_4]
    try simp (disch := omega) only [Int.reduceAdd, Int.add_assoc, Int.zero_add]
    rw [s_shiftRow (by omega) (by omega) (by omega), zK_v, zb_Uni_dropFirst_13]
    try simp (disch := omega) only [Int.reduceAdd, Int.add_assoc, Int.zero_add]
    rw [s_shiftRow (by omega) (by omega) (by omega), zK_v, zb_Uni_dropFirst_17]
    try simp (disch := omega) only [Int.reduceAdd, Int.add_assoc, Int.zero_add, zNL8, zNL96]
    rw [s_shiftRow0 (by omega), zK_v, zb_Uni_dropFirst_21]
    try simp (disch := omega) only [Int.reduceAdd, Int.add_assoc, Int.zero_add, zNL8, zNL96]
    rw [s_shiftRow0 (by omega), zK_v, zb_Uni_dropFirst_25]
    try simp (disch := omega) only [zw_id]
    simp (disch := omega) only [zcpy_na, zw_id, k1, Int.reduceSub]
theorem c_handOn {q : Int × (Int → Int)} {d : Nat} {σ : zS} {n b : Int} {g : Int → Int} {B : Int} (h8 : 0 ≤ g (B + 8) ∧ g (B + 8) ≤ 7) (h : zLC n σ.1 b g B) : ∃ f2, zM (true, q) d 121 [(13, b, 0)] σ = some ((9, 0, 0), (f2, σ.2)) ∧ zLC n f2 b (if g (B + 8) + 1 < g (B + 7) then zup1 g (B + 8) (g (B + 8) + 1) else zup1 (zup1 g (B + 8) 0) (B + 9) 0) B ∧ zFb b σ.1 f2 := by
  have k2 := h.2.2.1
  have f10 := zc_f10 h
  by_cases c : g (B + 8) + 1 < g (B + 7)
  · rw [if_pos c]
    refine ⟨_, ?_, zu_10 h, zFb_up (by omega)⟩
    rw [ze_Lin_handOn, zb_Lin_handOn_0]
    try simp (disch := omega) only [zw_id, Int.reduceAdd, Int.add_assoc, Int.zero_add]
    rw [if_pos (by first | omega | (simp (disch := omega) only [zupE, zup_nk, zup_na, zcpy_na]; omega))]
    try simp (disch := omega) only [zw_id, Int.reduceAdd, Int.add_assoc, Int.zero_add]
    rw [zb_Lin_handOn_18]
    simp (disch := omega) only [zw_id, f10]
  · rw [if_neg c]
    refine ⟨_, ?_, zu_11 (zup1_zup1 (g := g) ▸ zu_10 (zu_10 (v := g (B + 8) + 1) h)), zFb_trans (zFb_up (by omega)) (zFb_trans (zFb_up (by omega)) (zFb_up (by omega)))⟩
    rw [ze_Lin_handOn, zb_Lin_handOn_0]
    try simp (disch := omega) only [zw_id, Int.reduceAdd, Int.add_assoc, Int.zero_add]
    rw [if_neg (by first | omega | (simp (disch := omega) only [zupE, zup_nk, zup_na, zcpy_na]; omega))]
    try simp (disch := omega) only [zw_id, Int.reduceAdd, Int.add_assoc, Int.zero_add]
    rw [zb_Lin_handOn_12, zG2 (by omega) (by omega), zb_Lin_handOn_18]
    simp (disch := omega) only [zw_id, f10]
theorem cs_tail {q : Int × (Int → Int)} {d : Nat} {σ : zS} {n W l b : Int} {g g0 : Int → Int} {B m fo x3 x4 x6 : Int} (hb : W + 23 ≤ b) (h : zLC n σ.1 b g B) (m0 : 0 ≤ m) (m7 : m < g (B + 7)) (k8 : g (B + 7) ≤ 8) (hf : ∀ i, 0 ≤ i → i < 10 → σ.1 (W + 22) i = rFact g0 l 0 fo 0 i) (hlen : 1 ≤ g (B + (17 + 4 * m + 1))) : ∃ f2, zD (true, q) (d + 1) zc_Wor_send (zat zc_Wor_send 99) [(18, W, 0), (0, l, 0), (13, b, 0), (0, x3, 0), (0, x4, 0), (0, m, 0), (2, 0, 0)] [(0, x6, 0)] σ = zD (true, q) (d + 1) zc_Wor_send (zat zc_Wor_send 131) [(18, W, 0), (0, l, 0), (13, b, 0), (0, x3, 0), (0, x4, 0), (0, m, 0), (0, x6, 0)] [] (f2, σ.2) ∧ zLC n f2 b (zup1 g (B + (17 + 4 * m + 3)) (zw (x6 + 1))) B ∧ (∀ i, 0 ≤ i → i < 10 → f2 (W + 22) i = rFact g0 l (g (B + (17 + 4 * m + 1))) fo (if x6 ≤ 0 then 0 else 1) i) ∧ (∀ o k, (o < b ∨ b + 18 ≤ o) → o ≠ W + 22 → f2 o k = σ.1 o k) := by
  have e8 := zNL8
  have hl8 : σ.1 (b + 8) m = g (B + (17 + 4 * m + 1)) := h.2.2.2.1 m 1 m0 m7 (by decide) (by decide)
  have h' : ∀ v, zLC n (zup (zup (zup σ.1 (W + 22) 1 (g (B + (17 + 4 * m + 1)))) (W + 22) 7 0) (W + 22) 9 v) b g B := fun v => zLC_fr (fun o k a b => by rw [zup_na (by omega), zup_na (by omega), zup_na (by omega)]) h
  refine ⟨zup (zup (zup (zup σ.1 (W + 22) 1 (g (B + (17 + 4 * m + 1)))) (W + 22) 7 0) (W + 22) 9 (if x6 ≤ 0 then 0 else 1)) (b + 10) m (zw (x6 + 1)), ?_, zLC_sent m0 (by omega) (h' _), fun i i0 i1 => ?_, fun o k a1 a2 => ?_⟩
  · by_cases c : x6 ≤ 0
    · rw [if_pos c]
      rw [zb_Wor_send_99]
      try simp (disch := omega) only [Int.reduceAdd, Int.add_assoc, Int.zero_add]
      rw [s_at (by omega) (by omega), hl8, zK_i, zb_Wor_send_108, s_put (by omega) (by omega), zK_v, zb_Wor_send_109]
      try simp (disch := omega) only [Int.reduceAdd, Int.add_assoc, Int.zero_add]
      rw [s_put (by omega) (by omega), zK_v, zb_Wor_send_114, if_pos (c)]
      try simp (disch := omega) only [Int.reduceAdd, Int.add_assoc, Int.zero_add]
      rw [zb_Wor_send_121, s_put (by omega) (by omega), zK_v, zb_Wor_send_123]
      try simp (disch := omega) only [zw_id, zNL8, zNL96]
      rw [s_put (by omega) (by omega), zK_v]
      simp only [Int.add_assoc, Int.reduceAdd]
    · rw [if_neg c]
      rw [zb_Wor_send_99]
      try simp (disch := omega) only [Int.reduceAdd, Int.add_assoc, Int.zero_add]
      rw [s_at (by omega) (by omega), hl8, zK_i, zb_Wor_send_108, s_put (by omega) (by omega), zK_v, zb_Wor_send_109]
      try simp (disch := omega) only [Int.reduceAdd, Int.add_assoc, Int.zero_add]
      rw [s_put (by omega) (by omega), zK_v, zb_Wor_send_114, if_neg (c)]
      try simp (disch := omega) only [Int.reduceAdd, Int.add_assoc, Int.zero_add]
      rw [zb_Wor_send_119, s_put (by omega) (by omega), zK_v, zb_Wor_send_123]
      try simp (disch := omega) only [zw_id, zNL8, zNL96]
      rw [s_put (by omega) (by omega), zK_v]
      simp only [Int.add_assoc, Int.reduceAdd]
  · rw [zup_na (by omega)]
    by_cases i9 : i = 9
    · subst i9
      rw [zupE rfl rfl]
      rfl
    · rw [zup_nk i9]
      by_cases i7 : i = 7
      · subst i7
        rw [zupE rfl rfl]
        unfold rFact
        rw [if_neg (by decide), if_neg (by decide), if_neg (by decide), if_neg (by decide), if_neg (by decide), if_neg (by decide), if_neg (by decide), if_pos rfl, if_neg (by omega)]
      · rw [zup_nk i7]
        by_cases c1 : i = 1
        · subst c1
          rw [zupE rfl rfl]
          rfl
        · rw [zup_nk c1, hf i i0 i1]
          unfold rFact
          rw [if_neg c1, if_neg c1, if_neg i7, if_neg i7, if_neg i9, if_neg i9]
  · rw [zup_na (by omega), zup_na a2, zup_na a2, zup_na a2]
