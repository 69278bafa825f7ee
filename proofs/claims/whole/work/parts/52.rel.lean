/-! ## the class: a line against a row -/
def zfm (c : Int) : Int := if c < 10 then c - 4 else c - 2
def zLC (n : Int) (f : Int → Int → Int) (b : Int) (g : Int → Int) (B : Int) : Prop :=
  (∀ c, 4 ≤ c → c < 19 → f b c = g (B + zfm c)) ∧ f (b + 1) 4 = g (B + 6) ∧ f (b + 6) 4 = g (B + 7) ∧
  (∀ k c, 0 ≤ k → k < g (B + 7) → 0 ≤ c → c < 4 → f (b + (7 + c)) k = g (B + (17 + 4 * k + c))) ∧
  (∀ k c, 0 ≤ k → k < g (B + 6) → 0 ≤ c → c < 2 → f (b + (2 + c)) k = g (B + (73 + 2 * k + c))) ∧
  (∀ k, 0 ≤ k → k < n → f (b + 12) k = g (B + (49 + 5 * k + 0)) ∧ (g (B + (49 + 5 * k + 0)) ≠ 0 → f (b + 16) k = g (B + (49 + 5 * k + 3))) ∧ (g (B + (49 + 5 * k + 0)) = 2 → f (b + 13) k = g (B + (49 + 5 * k + 1)) ∧ f (b + 14) k = g (B + (49 + 5 * k + 4)) ∧ f (b + 15) k = g (B + (49 + 5 * k + 2)))) ∧
  (∀ k, 0 ≤ k → k < g (B + 2) → f (b + 17) k = g (B + (69 + k)))
/-- but for that line nothing changes -/
def zFb (b : Int) (f f2 : Int → Int → Int) : Prop := ∀ o k, (o < b ∨ b + 18 ≤ o) → f2 o k = f o k
theorem zFb_refl {b : Int} {f : Int → Int → Int} : zFb b f f := fun _ _ _ => rfl
theorem zFb_trans {b : Int} {f f2 f3 : Int → Int → Int} (h : zFb b f f2) (h2 : zFb b f2 f3) : zFb b f f3 := fun o k h1 => (h2 o k h1).trans (h o k h1)
theorem zFb_up {b a c v : Int} {f : Int → Int → Int} (h : b ≤ a ∧ a < b + 18) : zFb b f (zup f a c v) := fun o k h1 => zup_na (by omega)
theorem zFb_cp {b a s c e n : Int} {f : Int → Int → Int} (h : b ≤ c ∧ c < b + 18) : zFb b f (zcpy f a s c e n) := fun o k h1 => zcpy_na (by omega)
theorem zFb_fi {b a v n : Int} {f : Int → Int → Int} (h : b ≤ a ∧ a < b + 18) : zFb b f (zfill f a v n) := fun o k h1 => zfill_na (by omega)
theorem zfm_rng {c : Int} (h : 4 ≤ c) (h2 : c < 19) (h6 : c ≠ 6) : 0 ≤ zfm c ∧ zfm c < 17 ∧ zfm c ≠ 2 ∧ zfm c ≠ 6 ∧ zfm c ≠ 7 := by
  unfold zfm
  split <;> omega
theorem zfm_inj {c e : Int} (h : zfm c = zfm e) : c = e ∨ 4 > c ∨ 4 > e := by
  unfold zfm at h
  split at h <;> split at h <;> omega
theorem zc_f4 {n : Int} {f : Int → Int → Int} {b : Int} {g : Int → Int} {B : Int} (h : zLC n f b g B) : f b 4 = g (B + 0) := h.1 4 (by decide) (by decide)
theorem zc_f5 {n : Int} {f : Int → Int → Int} {b : Int} {g : Int → Int} {B : Int} (h : zLC n f b g B) : f b 5 = g (B + 1) := h.1 5 (by decide) (by decide)
theorem zc_f6 {n : Int} {f : Int → Int → Int} {b : Int} {g : Int → Int} {B : Int} (h : zLC n f b g B) : f b 6 = g (B + 2) := h.1 6 (by decide) (by decide)
theorem zc_f7 {n : Int} {f : Int → Int → Int} {b : Int} {g : Int → Int} {B : Int} (h : zLC n f b g B) : f b 7 = g (B + 3) := h.1 7 (by decide) (by decide)
theorem zc_f8 {n : Int} {f : Int → Int → Int} {b : Int} {g : Int → Int} {B : Int} (h : zLC n f b g B) : f b 8 = g (B + 4) := h.1 8 (by decide) (by decide)
theorem zc_f9 {n : Int} {f : Int → Int → Int} {b : Int} {g : Int → Int} {B : Int} (h : zLC n f b g B) : f b 9 = g (B + 5) := h.1 9 (by decide) (by decide)
theorem zc_f10 {n : Int} {f : Int → Int → Int} {b : Int} {g : Int → Int} {B : Int} (h : zLC n f b g B) : f b 10 = g (B + 8) := h.1 10 (by decide) (by decide)
theorem zc_f11 {n : Int} {f : Int → Int → Int} {b : Int} {g : Int → Int} {B : Int} (h : zLC n f b g B) : f b 11 = g (B + 9) := h.1 11 (by decide) (by decide)
theorem zc_f12 {n : Int} {f : Int → Int → Int} {b : Int} {g : Int → Int} {B : Int} (h : zLC n f b g B) : f b 12 = g (B + 10) := h.1 12 (by decide) (by decide)
theorem zc_f13 {n : Int} {f : Int → Int → Int} {b : Int} {g : Int → Int} {B : Int} (h : zLC n f b g B) : f b 13 = g (B + 11) := h.1 13 (by decide) (by decide)
theorem zc_f14 {n : Int} {f : Int → Int → Int} {b : Int} {g : Int → Int} {B : Int} (h : zLC n f b g B) : f b 14 = g (B + 12) := h.1 14 (by decide) (by decide)
theorem zc_f15 {n : Int} {f : Int → Int → Int} {b : Int} {g : Int → Int} {B : Int} (h : zLC n f b g B) : f b 15 = g (B + 13) := h.1 15 (by decide) (by decide)
theorem zc_f16 {n : Int} {f : Int → Int → Int} {b : Int} {g : Int → Int} {B : Int} (h : zLC n f b g B) : f b 16 = g (B + 14) := h.1 16 (by decide) (by decide)
theorem zc_f17 {n : Int} {f : Int → Int → Int} {b : Int} {g : Int → Int} {B : Int} (h : zLC n f b g B) : f b 17 = g (B + 15) := h.1 17 (by decide) (by decide)
theorem zc_f18 {n : Int} {f : Int → Int → Int} {b : Int} {g : Int → Int} {B : Int} (h : zLC n f b g B) : f b 18 = g (B + 16) := h.1 18 (by decide) (by decide)
theorem zLC_fr {n : Int} {f f2 : Int → Int → Int} {b : Int} {g : Int → Int} {B : Int} (e : ∀ o k, b ≤ o → o < b + 18 → f2 o k = f o k) (h : zLC n f b g B) : zLC n f2 b g B := by
  obtain ⟨h1, h2, h3, h4, h5, h6, h7⟩ := h
  refine ⟨fun c c0 c1 => (e _ _ (by omega) (by omega)).trans (h1 c c0 c1), (e _ _ (by omega) (by omega)).trans h2, (e _ _ (by omega) (by omega)).trans h3, fun k c k0 k1 c0 c1 => (e _ _ (by omega) (by omega)).trans (h4 k c k0 k1 c0 c1), fun k c k0 k1 c0 c1 => (e _ _ (by omega) (by omega)).trans (h5 k c k0 k1 c0 c1), fun k k0 k1 => ?_, fun k k0 k1 => (e _ _ (by omega) (by omega)).trans (h7 k k0 k1)⟩
  rw [e _ _ (by omega) (by omega), e _ _ (by omega) (by omega), e _ _ (by omega) (by omega), e _ _ (by omega) (by omega), e _ _ (by omega) (by omega)]
  exact h6 k k0 k1
theorem zLC_fb {n : Int} {f f2 : Int → Int → Int} {b b2 : Int} {g : Int → Int} {B : Int} (e : zFb b2 f f2) (hb : b + 18 ≤ b2 ∨ b2 + 18 ≤ b) (h : zLC n f b g B) : zLC n f2 b g B := zLC_fr (fun o k _ _ => e o k (by omega)) h
theorem zLC_eq {n : Int} {f : Int → Int → Int} {b : Int} {g g2 : Int → Int} {B : Int} (e : zLE g g2 B) (hr : rLR g B) (hn : n ≤ 4) (h : zLC n f b g B) : zLC n f b g2 B := by
  obtain ⟨h1, h2, h3, h4, h5, h6, h7⟩ := h
  obtain ⟨r_0, r_1, r_2, r_3, r_4, r_5, r_6, r_7, _⟩ := hr
  have e6 := e (B + 6) (by omega) (by omega)
  have e7 := e (B + 7) (by omega) (by omega)
  have e2 := e (B + 2) (by omega) (by omega)
  refine ⟨fun c c0 c1 => ?_, h2.trans e6.symm, h3.trans e7.symm, fun k c k0 k1 c0 c1 => ?_, fun k c k0 k1 c0 c1 => ?_, fun k k0 k1 => ?_, fun k k0 k1 => ?_⟩
  · rw [e (B + zfm c) (by unfold zfm; split <;> omega) (by unfold zfm; split <;> omega)]
    exact h1 c c0 c1
  · rw [e _ (by omega) (by omega)]
    exact h4 k c k0 (by omega) c0 c1
  · rw [e _ (by omega) (by omega)]
    exact h5 k c k0 (by omega) c0 c1
  · rw [e _ (by omega) (by omega), e _ (by omega) (by omega), e _ (by omega) (by omega), e _ (by omega) (by omega), e _ (by omega) (by omega)]
    exact h6 k k0 (by omega)
  · rw [e _ (by omega) (by omega)]
    exact h7 k k0 (by omega)
/-- one field -/
theorem zLC_up {n : Int} {f : Int → Int → Int} {b : Int} {g : Int → Int} {B c v r : Int} (c0 : 4 ≤ c) (c1 : c < 19) (c6 : c ≠ 6) (hr : r = zfm c) (h : zLC n f b g B) : zLC n (zup f b c v) b (zup1 g (B + r) v) B := by
  obtain ⟨h1, h2, h3, h4, h5, h6, h7⟩ := h
  have hz := zfm_rng c0 c1 c6
  have er : ∀ j, j ≠ r → zup1 g (B + r) v (B + j) = g (B + j) := fun j hj => zup1_ne (by omega)
  refine ⟨fun e e0 e1 => ?_, ?_, ?_, fun k e k0 k1 e0 e1 => ?_, fun k e k0 k1 e0 e1 => ?_, fun k k0 k1 => ?_, fun k k0 k1 => ?_⟩
  · by_cases hc : e = c
    · subst hc
      rw [zupE rfl rfl, zup1_eq (by omega)]
    · rw [zup_nk hc, er _ (fun z => by have := zfm_inj (z.trans hr); omega)]
      exact h1 e e0 e1
  · rw [zup_na (by omega), er _ (by omega)]
    exact h2
  · rw [zup_na (by omega), er _ (by omega)]
    exact h3
  · rw [er _ (by omega)] at k1
    rw [zup_na (by omega), er _ (by omega)]
    exact h4 k e k0 k1 e0 e1
  · rw [er _ (by omega)] at k1
    rw [zup_na (by omega), er _ (by omega)]
    exact h5 k e k0 k1 e0 e1
  · rw [zup_na (by omega), zup_na (by omega), zup_na (by omega), zup_na (by omega), zup_na (by omega), er _ (by omega), er _ (by omega), er _ (by omega), er _ (by omega), er _ (by omega)]
    exact h6 k k0 k1
  · rw [er _ (by omega)] at k1
    rw [zup_na (by omega), er _ (by omega)]
    exact h7 k k0 k1

theorem zu_4 {n : Int} {f : Int → Int → Int} {b : Int} {g : Int → Int} {B v : Int} (h : zLC n f b g B) : zLC n (zup f b 4 v) b (zup1 g (B + 0) v) B := zLC_up (by decide) (by decide) (by decide) rfl h
theorem zu_5 {n : Int} {f : Int → Int → Int} {b : Int} {g : Int → Int} {B v : Int} (h : zLC n f b g B) : zLC n (zup f b 5 v) b (zup1 g (B + 1) v) B := zLC_up (by decide) (by decide) (by decide) rfl h
theorem zu_7 {n : Int} {f : Int → Int → Int} {b : Int} {g : Int → Int} {B v : Int} (h : zLC n f b g B) : zLC n (zup f b 7 v) b (zup1 g (B + 3) v) B := zLC_up (by decide) (by decide) (by decide) rfl h
theorem zu_8 {n : Int} {f : Int → Int → Int} {b : Int} {g : Int → Int} {B v : Int} (h : zLC n f b g B) : zLC n (zup f b 8 v) b (zup1 g (B + 4) v) B := zLC_up (by decide) (by decide) (by decide) rfl h
theorem zu_9 {n : Int} {f : Int → Int → Int} {b : Int} {g : Int → Int} {B v : Int} (h : zLC n f b g B) : zLC n (zup f b 9 v) b (zup1 g (B + 5) v) B := zLC_up (by decide) (by decide) (by decide) rfl h
theorem zu_10 {n : Int} {f : Int → Int → Int} {b : Int} {g : Int → Int} {B v : Int} (h : zLC n f b g B) : zLC n (zup f b 10 v) b (zup1 g (B + 8) v) B := zLC_up (by decide) (by decide) (by decide) rfl h
theorem zu_11 {n : Int} {f : Int → Int → Int} {b : Int} {g : Int → Int} {B v : Int} (h : zLC n f b g B) : zLC n (zup f b 11 v) b (zup1 g (B + 9) v) B := zLC_up (by decide) (by decide) (by decide) rfl h
theorem zu_12 {n : Int} {f : Int → Int → Int} {b : Int} {g : Int → Int} {B v : Int} (h : zLC n f b g B) : zLC n (zup f b 12 v) b (zup1 g (B + 10) v) B := zLC_up (by decide) (by decide) (by decide) rfl h
theorem zu_13 {n : Int} {f : Int → Int → Int} {b : Int} {g : Int → Int} {B v : Int} (h : zLC n f b g B) : zLC n (zup f b 13 v) b (zup1 g (B + 11) v) B := zLC_up (by decide) (by decide) (by decide) rfl h
theorem zu_14 {n : Int} {f : Int → Int → Int} {b : Int} {g : Int → Int} {B v : Int} (h : zLC n f b g B) : zLC n (zup f b 14 v) b (zup1 g (B + 12) v) B := zLC_up (by decide) (by decide) (by decide) rfl h
theorem zu_15 {n : Int} {f : Int → Int → Int} {b : Int} {g : Int → Int} {B v : Int} (h : zLC n f b g B) : zLC n (zup f b 15 v) b (zup1 g (B + 13) v) B := zLC_up (by decide) (by decide) (by decide) rfl h
theorem zu_16 {n : Int} {f : Int → Int → Int} {b : Int} {g : Int → Int} {B v : Int} (h : zLC n f b g B) : zLC n (zup f b 16 v) b (zup1 g (B + 14) v) B := zLC_up (by decide) (by decide) (by decide) rfl h
theorem zu_17 {n : Int} {f : Int → Int → Int} {b : Int} {g : Int → Int} {B v : Int} (h : zLC n f b g B) : zLC n (zup f b 17 v) b (zup1 g (B + 15) v) B := zLC_up (by decide) (by decide) (by decide) rfl h
theorem zu_18 {n : Int} {f : Int → Int → Int} {b : Int} {g : Int → Int} {B v : Int} (h : zLC n f b g B) : zLC n (zup f b 18 v) b (zup1 g (B + 16) v) B := zLC_up (by decide) (by decide) (by decide) rfl h
/-- of the first place in the air -/
theorem zc_air0 {n : Int} {f : Int → Int → Int} {b : Int} {g : Int → Int} {B : Int} (h : zLC n f b g B) (p : 1 ≤ n) : f (b + 12) 0 = g (B + (49 + 0)) ∧ (g (B + (49 + 0)) ≠ 0 → f (b + 16) 0 = g (B + (49 + 3))) ∧ (g (B + (49 + 0)) = 2 → f (b + 13) 0 = g (B + (49 + 1)) ∧ f (b + 14) 0 = g (B + (49 + 4)) ∧ f (b + 15) 0 = g (B + (49 + 2))) := h.2.2.2.2.2.1 0 (by decide) (by omega)
theorem zA_0 {g : Int → Int} {B : Int} (h : zLA g B) : (0 ≤ g (B + (49 + 0)) ∧ g (B + (49 + 0)) ≤ 2) ∧ (0 ≤ g (B + (49 + 3)) ∧ g (B + (49 + 3)) ≤ 1) ∧ (g (B + (49 + 0)) = 0 → g (B + (49 + 3)) = 0) ∧ (g (B + (49 + 0)) = 2 → 1 ≤ g (B + (49 + 4)) ∧ g (B + (49 + 4)) ≤ 9 ∧ g (B + 0) = 2) := h 0 (by decide) (by decide)
theorem c_isBad0 {q : Int × (Int → Int)} {d : Nat} {σ : zS} {b : Int} : zM (true, q) (d + 1) 105 [(10, b + 11, 0), (0, 0, 0)] σ = some ((0, if σ.1 (b + 16) 0 = 0 then 0 else 1, 0), σ) := by
  by_cases c : σ.1 (b + 16) 0 = 0
  · rw [if_pos c]
    rw [ze_Air_isBad, zb_Air_isBad_0]
    try simp (disch := omega) only [Int.reduceAdd, Int.add_assoc, Int.zero_add]
    rw [s_at (by omega) (by omega), zK_i, zb_Air_isBad_4, if_pos (c), zb_Air_isBad_7, zG2 (by omega) (by omega)]
  · rw [if_neg c]
    rw [ze_Air_isBad, zb_Air_isBad_0]
    try simp (disch := omega) only [Int.reduceAdd, Int.add_assoc, Int.zero_add]
    rw [s_at (by omega) (by omega), zK_i, zb_Air_isBad_4, if_neg (c), zb_Air_isBad_5, zG2 (by omega) (by omega)]
theorem c_watch {q : Int × (Int → Int)} {d : Nat} {σ : zS} {n b : Int} {g : Int → Int} {B : Int} (hn : 1 ≤ n) (h : zLC n σ.1 b g B) (hr : rLR g B) (hA : zLA g B) : ∃ f2, zM (true, q) (d + 2) 106 [(13, b, 0)] σ = some ((0, if g (B + (49 + 3)) = 1 then 1 else 0, 0), (f2, σ.2)) ∧ zLC n f2 b (rWatch g B (g (B + (49 + 0))) (g (B + (49 + 3)))) B ∧ zFb b σ.1 f2 := by
  obtain ⟨h_0, h_1, h_2, h_3, h_4, h_5, h_6, h_7, h_8, h_9, h_10, h_11, h_12, h_13, h_14, h_15, h_16⟩ := id hr
  obtain ⟨a0, a3, _⟩ := zc_air0 h hn
  obtain ⟨z0, z3, zz, _⟩ := zA_0 hA
  have f14 := zc_f14 h
  have f15 := zc_f15 h
  unfold rWatch
  by_cases k0 : g (B + (49 + 0)) = 0
  · rw [if_neg (by omega), if_neg (by omega), if_pos (by omega)]
    refine ⟨σ.1, ?_, h, zFb_refl⟩
    rw [ze_Lin_watch, zb_Lin_watch_0]
    try simp (disch := omega) only [Int.reduceAdd, Int.add_assoc, Int.zero_add]
    rw [s_at (by omega) (by omega), zK_i, zb_Lin_watch_5, if_neg (by omega), zb_Lin_watch_6, zG2 (by omega) (by omega)]
  · have a3 := a3 k0
    by_cases k3 : g (B + (49 + 3)) = 1
    · rw [if_pos k3, if_pos k3]
      by_cases c : g (B + 12) + 1 ≤ 99
      · rw [if_pos c, ← f14]
        refine ⟨_, ?_, zu_15 (zu_14 h), zFb_trans (zFb_up (by omega)) (zFb_up (by omega))⟩
        rw [ze_Lin_watch, zb_Lin_watch_0]
        try simp (disch := omega) only [Int.reduceAdd, Int.add_assoc, Int.zero_add]
        rw [s_at (by omega) (by omega), zK_i, zb_Lin_watch_5, if_pos (by omega), zb_Lin_watch_8]
        try simp (disch := omega) only [Int.reduceAdd, Int.add_assoc, Int.zero_add]
        rw [c_isBad0, zK_i, zb_Lin_watch_12, if_neg (by split <;> omega), zb_Lin_watch_13, if_neg (by omega), zb_Lin_watch_18]
        try simp (disch := omega) only [zw_id]
        rw [zG2 (by omega) (by omega)]
        try simp (disch := omega) only [zw_id]
      · rw [if_neg c]
        refine ⟨_, ?_, zu_15 (zu_14 h), zFb_trans (zFb_up (by omega)) (zFb_up (by omega))⟩
        rw [ze_Lin_watch, zb_Lin_watch_0]
        try simp (disch := omega) only [Int.reduceAdd, Int.add_assoc, Int.zero_add]
        rw [s_at (by omega) (by omega), zK_i, zb_Lin_watch_5, if_pos (by omega), zb_Lin_watch_8]
        try simp (disch := omega) only [Int.reduceAdd, Int.add_assoc, Int.zero_add]
        rw [c_isBad0, zK_i, zb_Lin_watch_12, if_neg (by split <;> omega), zb_Lin_watch_13, if_pos (by omega), zb_Lin_watch_23, zG2 (by omega) (by omega)]
    · have hz : zrem (g (B + 13) + 1) 8 = (g (B + 13) + 1) % 8 := Int.tmod_eq_emod_of_nonneg (by omega)
      rw [if_neg k3, if_neg k3, if_neg (by omega), hz]
      by_cases c : (g (B + 13) + 1) % 8 = 0
      · rw [if_neg (fun z => z c), c]
        by_cases c2 : 0 ≤ g (B + 12) - 1
        · rw [if_pos c2, ← f14]
          refine ⟨_, ?_, zu_14 (zup1_zup1 (g := g) ▸ zu_15 (zu_15 (v := σ.1 b 15 + 1) h)), zFb_trans (zFb_up (by omega)) (zFb_trans (zFb_up (by omega)) (zFb_up (by omega)))⟩
          rw [ze_Lin_watch, zb_Lin_watch_0]
          try simp (disch := omega) only [Int.reduceAdd, Int.add_assoc, Int.zero_add]
          rw [s_at (by omega) (by omega), zK_i, zb_Lin_watch_5, if_pos (by omega), zb_Lin_watch_8]
          try simp (disch := omega) only [Int.reduceAdd, Int.add_assoc, Int.zero_add]
          rw [c_isBad0, zK_i, zb_Lin_watch_12, if_pos (by split <;> omega), zb_Lin_watch_30]
          try simp (disch := omega) only [zw_id]
          rw [if_neg (by first | omega | (simp (disch := omega) only [zupE, zup_nk, zup_na]; omega))]
          try simp (disch := omega) only [zw_id]
          rw [zb_Lin_watch_40, if_neg (by first | omega | (simp (disch := omega) only [zupE, zup_nk, zup_na]; omega)), zb_Lin_watch_47]
          try simp (disch := omega) only [zw_id]
          rw [zG2 (by omega) (by omega)]
          try simp (disch := omega) only [zw_id]
          try simp (disch := omega) only [zupE, zup_nk, zup_na, zw_id]
        · rw [if_neg c2]
          refine ⟨_, ?_, zu_14 (zup1_zup1 (g := g) ▸ zu_15 (zu_15 (v := σ.1 b 15 + 1) h)), zFb_trans (zFb_up (by omega)) (zFb_trans (zFb_up (by omega)) (zFb_up (by omega)))⟩
          rw [ze_Lin_watch, zb_Lin_watch_0]
          try simp (disch := omega) only [Int.reduceAdd, Int.add_assoc, Int.zero_add]
          rw [s_at (by omega) (by omega), zK_i, zb_Lin_watch_5, if_pos (by omega), zb_Lin_watch_8]
          try simp (disch := omega) only [Int.reduceAdd, Int.add_assoc, Int.zero_add]
          rw [c_isBad0, zK_i, zb_Lin_watch_12, if_pos (by split <;> omega), zb_Lin_watch_30]
          try simp (disch := omega) only [zw_id]
          rw [if_neg (by first | omega | (simp (disch := omega) only [zupE, zup_nk, zup_na]; omega))]
          try simp (disch := omega) only [zw_id]
          rw [zb_Lin_watch_40, if_pos (by first | omega | (simp (disch := omega) only [zupE, zup_nk, zup_na]; omega)), zb_Lin_watch_52, zG2 (by omega) (by omega)]
          try simp (disch := omega) only [zupE, zup_nk, zup_na, zw_id]
      · rw [if_pos c, show (g (B + 13) + 1) % 8 = σ.1 b 15 + 1 by omega]
        refine ⟨_, ?_, zu_15 h, zFb_up (by omega)⟩
        rw [ze_Lin_watch, zb_Lin_watch_0]
        try simp (disch := omega) only [Int.reduceAdd, Int.add_assoc, Int.zero_add]
        rw [s_at (by omega) (by omega), zK_i, zb_Lin_watch_5, if_pos (by omega), zb_Lin_watch_8]
        try simp (disch := omega) only [Int.reduceAdd, Int.add_assoc, Int.zero_add]
        rw [c_isBad0, zK_i, zb_Lin_watch_12, if_pos (by split <;> omega), zb_Lin_watch_30]
        try simp (disch := omega) only [zw_id]
        rw [if_pos (by first | omega | (simp (disch := omega) only [zupE, zup_nk, zup_na]; omega))]
        try simp (disch := omega) only [zw_id]
        rw [zb_Lin_watch_54, zG2 (by omega) (by omega)]
