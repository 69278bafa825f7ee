/-! ## calls that may throw -/
def zThr (t : (Int → Int) × Nat × Nat × Nat × (Int → Int → Bool)) : (Int → Int) × Nat × Nat × Nat × (Int → Int → Bool) := (t.1, t.2.1 + 1, t.2.2.1 + 6, t.2.2.2)
def zTt (t t1 : (Int → Int) × Nat × Nat × Nat × (Int → Int → Bool)) : Prop := t1.2.1 ≤ t.2.1 + 1 ∧ t1.2.2.1 ≤ t.2.2.1 + 6
theorem zTt_refl {t : (Int → Int) × Nat × Nat × Nat × (Int → Int → Bool)} : zTt t t := ⟨Nat.le_succ _, Nat.le_add_right _ _⟩
theorem zTt_thr {t : (Int → Int) × Nat × Nat × Nat × (Int → Int → Bool)} : zTt t (zThr t) := ⟨Nat.le_refl _, Nat.le_refl _⟩
theorem c_lineOfT {q : Int × (Int → Int)} {d : Nat} {σ : zS} {l : Int} (h0 : 0 ≤ l) (h1 : l < σ.1 23 4) (h4 : σ.1 23 4 ≤ 4) : zM (true, q) (d + 1) 100 [(19, 0, 0), (0, l, 0)] σ = some ((13, 46 + 18 * l, 0), σ) := by
  rw [ze_X_lineOf, zb_X_lineOf_0, if_neg (by omega), zb_X_lineOf_2]
  show (if l < σ.1 23 4 then _ else _) = _
  rw [if_pos h1, zb_X_lineOf_12, c_lineAt h0 (by omega)]
  show zD (true, q) (d + 1) zc_X_lineOf (zat zc_X_lineOf 16) [(19, 0, 0), (0, l, 0)] [(13, 0 + 23 + 23 + 18 * l, 0)] σ = _
  rw [zb_X_lineOf_16, show (0 : Int) + 23 + 23 + 18 * l = 46 + 18 * l by omega]
theorem c_lineOfF {q : Int × (Int → Int)} {d : Nat} {σ : zS} {l : Int} (h : ¬(0 ≤ l ∧ l < σ.1 23 4)) : zM (true, q) (d + 1) 100 [(19, 0, 0), (0, l, 0)] σ = some ((102, 0, 0), (σ.1, zThr σ.2)) := by
  rw [ze_X_lineOf, zb_X_lineOf_0]
  by_cases c : l < 0
  · rw [if_pos c, zb_X_lineOf_7]
    rfl
  · rw [if_neg c, zb_X_lineOf_2]
    show (if l < σ.1 23 4 then _ else _) = _
    rw [if_neg (by omega), zb_X_lineOf_7]
    rfl
/-- an act that both sides take -/
def zOw (q : Int × (Int → Int)) (N : Int) (f : Int → Int → Int) (t : (Int → Int) × Nat × Nat × Nat × (Int → Int → Bool)) (k : Nat) (ka : List zV) (m : Nat) (ma : List zV) : Prop := ∃ code v f1 t1 f2, zM (true, q) 1899 k ka (f, t) = some ((0, code, 0), (f1, t1)) ∧ zM (true, q) 1899 m ma (f1, t1) = some ((0, v, 0), (f2, t1)) ∧ f2 1464 0 = code ∧ (code = 0 → f2 1478 0 = v) ∧ ZR N f2 f2 ∧ zTt t t1
def zOu (q : Int × (Int → Int)) (N : Int) (f : Int → Int → Int) (t : (Int → Int) × Nat × Nat × Nat × (Int → Int → Bool)) (k : Nat) (ka : List zV) (m : Nat) (ma : List zV) : Prop := ∃ v f1 t1 f2, zM (true, q) 1899 k ka (f, t) = some ((0, v, 0), (f1, t1)) ∧ zM (true, q) 1899 m ma (f1, t1) = some ((0, v, 0), (f2, t1)) ∧ ZR N f2 f2 ∧ zTt t t1
theorem zOw_pure {q : Int × (Int → Int)} {N : Int} {f f1 f2 : Int → Int → Int} {t t1 : (Int → Int) × Nat × Nat × Nat × (Int → Int → Bool)} {k m : Nat} {ka ma : List zV} {code v : Int} (hR : ZR N f f) (hk : zM (true, q) 1899 k ka (f, t) = some ((0, code, 0), (f1, t1))) (ck : zCk f f1) (ch : ∀ o k, 1464 ≤ o → o ≠ 1478 → f1 o k = f o k) (ht : zTt t t1) (hm : zM (true, q) 1899 m ma (f1, t1) = some ((0, v, 0), (f2, t1))) (mk : ∀ o k, (o < 1464 ∨ o = 1478) → f2 o k = f1 o k) (mh : zHk f1 f2) (h0 : f2 1464 0 = code) (hv : code = 0 → f1 1478 0 = v) : zOw q N f t k ka m ma :=
  ⟨code, v, f1, t1, f2, hk, hm, h0, fun z => (mk _ _ (Or.inr rfl)).trans (hv z), ZR_c (fun o k a => (mk o k (Or.inl (by omega))).trans (ck o k a)) ⟨fun o k a => (mh.1 o k a).trans (ch o k (by omega) (by omega)), fun z => mh.2 (zB3_fr (fun k _ _ => ch _ k (by decide) (by decide)) z)⟩ hR, ht⟩
theorem zOu_pure {q : Int × (Int → Int)} {N : Int} {f f1 f2 : Int → Int → Int} {t t1 : (Int → Int) × Nat × Nat × Nat × (Int → Int → Bool)} {k m : Nat} {ka ma : List zV} {v : Int} (hR : ZR N f f) (hk : zM (true, q) 1899 k ka (f, t) = some ((0, v, 0), (f1, t1))) (ck : zCk f f1) (ch : ∀ o k, 1464 ≤ o → o ≠ 1478 → f1 o k = f o k) (ht : zTt t t1) (hm : zM (true, q) 1899 m ma (f1, t1) = some ((0, v, 0), (f2, t1))) (mk : ∀ o k, (o < 1464 ∨ o = 1478) → f2 o k = f1 o k) (mh : zHk f1 f2) : zOu q N f t k ka m ma :=
  ⟨v, f1, t1, f2, hk, hm, ZR_c (fun o k a => (mk o k (Or.inl (by omega))).trans (ck o k a)) ⟨fun o k a => (mh.1 o k a).trans (ch o k (by omega) (by omega)), fun z => mh.2 (zB3_fr (fun k _ _ => ch _ k (by decide) (by decide)) z)⟩ hR, ht⟩
/-- the class's answer is v, and nothing is changed; the reference's is so too -/
theorem zOw_v {q : Int × (Int → Int)} {N : Int} {f : Int → Int → Int} {t : (Int → Int) × Nat × Nat × Nat × (Int → Int → Bool)} {k m : Nat} {ka ma : List zV} {v : Int} {g : Int → Int} (hg : g = f 1465) (hR : ZR N f f) (hk : zM (true, q) 1899 k ka (f, t) = some ((0, 0, 0), (zup f 1478 0 v, t))) (hm : ∀ h : Int → Int → Int, zM (true, q) 1899 m ma (zrow h 1465 g, t) = some ((0, v, 0), (zrow (zup h 1464 0 0) 1465 g, t))) : zOw q N f t k ka m ma := by
  have e : (zup f 1478 0 v, t) = (zrow (zup f 1478 0 v) 1465 g, t) := by
    rw [hg, show f 1465 = zup f 1478 0 v 1465 from (zup_row (by decide)).symm, zrow_id]
  have h2 := hm (zup f 1478 0 v)
  rw [← e] at h2
  refine zOw_pure (f1 := zup f 1478 0 v) hR hk (fun o k a => zup_na (by omega)) (fun o k _ a => zup_na a) zTt_refl h2 (fun o k a => ?_) ⟨fun o k a => ?_, zB3_fr (fun k k0 k1 => by rw [zrow_ne (by decide), zup_nk (by omega)])⟩ ?_ (fun _ => zupE rfl rfl)
  · rw [zrow_ne (by omega), zup_na (by omega)]
  · by_cases c : o = 1465
    · rw [c, zrow_r, hg, zup_na (by decide)]
    · rw [zrow_ne c, zup_nka (by omega)]
  · rw [zrow_ne (by decide), zupE rfl rfl]
theorem zOw_t {q : Int × (Int → Int)} {N : Int} {f : Int → Int → Int} {t : (Int → Int) × Nat × Nat × Nat × (Int → Int → Bool)} {k m : Nat} {ka ma : List zV} {code v : Int} {g : Int → Int} (hg : g = f 1465) (hR : ZR N f f) (hc : code ≠ 0) (hk : zM (true, q) 1899 k ka (f, t) = some ((0, code, 0), (f, zThr t))) (hm : ∀ h : Int → Int → Int, zM (true, q) 1899 m ma (zrow h 1465 g, zThr t) = some ((0, v, 0), (zrow (zup h 1464 0 code) 1465 g, zThr t))) : zOw q N f t k ka m ma := by
  have e : (f, zThr t) = (zrow f 1465 g, zThr t) := by rw [hg, zrow_id]
  have h2 := hm f
  rw [← e] at h2
  refine zOw_pure (f1 := f) hR hk zCk_refl (fun _ _ _ _ => rfl) zTt_thr h2 (fun o k a => ?_) ⟨fun o k a => ?_, zB3_fr (fun k k0 k1 => by rw [zrow_ne (by decide), zup_nk (by omega)])⟩ ?_ (fun z => absurd z hc)
  · rw [zrow_ne (by omega), zup_na (by omega)]
  · by_cases c : o = 1465
    · rw [c, zrow_r, hg]
    · rw [zrow_ne c, zup_nka (by omega)]
  · rw [zrow_ne (by decide), zupE rfl rfl]
theorem zOu_v {q : Int × (Int → Int)} {N : Int} {f : Int → Int → Int} {t : (Int → Int) × Nat × Nat × Nat × (Int → Int → Bool)} {k m : Nat} {ka ma : List zV} {v : Int} {g : Int → Int} (hg : g = f 1465) (hR : ZR N f f) (hk : zM (true, q) 1899 k ka (f, t) = some ((0, v, 0), (f, t))) (hm : ∀ h : Int → Int → Int, zM (true, q) 1899 m ma (zrow h 1465 g, t) = some ((0, v, 0), (zrow (zup h 1464 0 0) 1465 g, t))) : zOu q N f t k ka m ma := by
  have e : (f, t) = (zrow f 1465 g, t) := by rw [hg, zrow_id]
  have h2 := hm f
  rw [← e] at h2
  refine zOu_pure (f1 := f) hR hk zCk_refl (fun _ _ _ _ => rfl) zTt_refl h2 (fun o k a => ?_) ⟨fun o k a => ?_, zB3_fr (fun k k0 k1 => by rw [zrow_ne (by decide), zup_nk (by omega)])⟩
  · rw [zrow_ne (by omega), zup_na (by omega)]
  · by_cases c : o = 1465
    · rw [c, zrow_r, hg]
    · rw [zrow_ne c, zup_nka (by omega)]
theorem k_ahead_v {q : Int × (Int → Int)} {d : Nat} {σ σ1 : zS} {x1 x2 : Int} {v : Int} (hx : zM (true, q) d 288 [(19, 0, 0), (0, x1, 0), (0, x2, 0)] σ = some ((0, v, 0), σ1)) : zM (true, q) (d + 1) 289 [(19, 0, 0), (0, x1, 0), (0, x2, 0), (31, 1478, 1)] σ = some ((0, 0, 0), (zup σ1.1 1478 0 v, σ1.2)) := by
  rw [ze_K_ahead, zb_K_ahead_0, hx, zK_i, zb_K_ahead_6, zG2 (by decide) (by decide), zb_K_ahead_8]
theorem k_ahead_102 {q : Int × (Int → Int)} {d : Nat} {σ σ1 : zS} {x1 x2 : Int} (hx : zM (true, q) d 288 [(19, 0, 0), (0, x1, 0), (0, x2, 0)] σ = some ((102, 0, 0), σ1)) : zM (true, q) (d + 1) 289 [(19, 0, 0), (0, x1, 0), (0, x2, 0), (31, 1478, 1)] σ = some ((0, 1, 0), σ1) := by
  rw [ze_K_ahead, zb_K_ahead_0, hx]
  show zD (true, q) (d + 1) zc_K_ahead (zat zc_K_ahead 9) [(19, 0, 0), (0, x1, 0), (0, x2, 0), (31, 1478, 1), (2, 0, 0)] [(3, 0, 0)] σ1 = _
  rw [zb_K_ahead_9]
theorem k_ahead_100 {q : Int × (Int → Int)} {d : Nat} {σ σ1 : zS} {x1 x2 : Int} (hx : zM (true, q) d 288 [(19, 0, 0), (0, x1, 0), (0, x2, 0)] σ = some ((100, 0, 0), σ1)) : zM (true, q) (d + 1) 289 [(19, 0, 0), (0, x1, 0), (0, x2, 0), (31, 1478, 1)] σ = some ((0, 2, 0), σ1) := by
  rw [ze_K_ahead, zb_K_ahead_0, hx]
  show zD (true, q) (d + 1) zc_K_ahead (zat zc_K_ahead 12) [(19, 0, 0), (0, x1, 0), (0, x2, 0), (31, 1478, 1), (2, 0, 0)] [(3, 0, 0)] σ1 = _
  rw [zb_K_ahead_12]
theorem k_air_v {q : Int × (Int → Int)} {d : Nat} {σ σ1 : zS} {x1 x2 x3 : Int} {v : Int} (hx : zM (true, q) d 176 [(19, 0, 0), (0, x1, 0), (0, x2, 0), (0, x3, 0)] σ = some ((0, v, 0), σ1)) : zM (true, q) (d + 1) 177 [(19, 0, 0), (0, x1, 0), (0, x2, 0), (0, x3, 0), (31, 1478, 1)] σ = some ((0, 0, 0), (zup σ1.1 1478 0 v, σ1.2)) := by
  rw [ze_K_air, zb_K_air_0, hx, zK_i, zb_K_air_7, zG2 (by decide) (by decide), zb_K_air_9]
theorem k_air_102 {q : Int × (Int → Int)} {d : Nat} {σ σ1 : zS} {x1 x2 x3 : Int} (hx : zM (true, q) d 176 [(19, 0, 0), (0, x1, 0), (0, x2, 0), (0, x3, 0)] σ = some ((102, 0, 0), σ1)) : zM (true, q) (d + 1) 177 [(19, 0, 0), (0, x1, 0), (0, x2, 0), (0, x3, 0), (31, 1478, 1)] σ = some ((0, 1, 0), σ1) := by
  rw [ze_K_air, zb_K_air_0, hx]
  show zD (true, q) (d + 1) zc_K_air (zat zc_K_air 10) [(19, 0, 0), (0, x1, 0), (0, x2, 0), (0, x3, 0), (31, 1478, 1), (2, 0, 0)] [(3, 0, 0)] σ1 = _
  rw [zb_K_air_10]
theorem k_air_103 {q : Int × (Int → Int)} {d : Nat} {σ σ1 : zS} {x1 x2 x3 : Int} (hx : zM (true, q) d 176 [(19, 0, 0), (0, x1, 0), (0, x2, 0), (0, x3, 0)] σ = some ((103, 0, 0), σ1)) : zM (true, q) (d + 1) 177 [(19, 0, 0), (0, x1, 0), (0, x2, 0), (0, x3, 0), (31, 1478, 1)] σ = some ((0, 2, 0), σ1) := by
  rw [ze_K_air, zb_K_air_0, hx]
  show zD (true, q) (d + 1) zc_K_air (zat zc_K_air 13) [(19, 0, 0), (0, x1, 0), (0, x2, 0), (0, x3, 0), (31, 1478, 1), (2, 0, 0)] [(3, 0, 0)] σ1 = _
  rw [zb_K_air_13]
theorem k_byState_v {q : Int × (Int → Int)} {d : Nat} {σ σ1 : zS} {x1 : Int} {v : Int} (hx : zM (true, q) d 282 [(19, 0, 0), (0, x1, 0)] σ = some ((0, v, 0), σ1)) : zM (true, q) (d + 1) 283 [(19, 0, 0), (0, x1, 0), (31, 1478, 1)] σ = some ((0, 0, 0), (zup σ1.1 1478 0 v, σ1.2)) := by
  rw [ze_K_byState, zb_K_byState_0, hx, zK_i, zb_K_byState_5, zG2 (by decide) (by decide), zb_K_byState_7]
theorem k_byState_103 {q : Int × (Int → Int)} {d : Nat} {σ σ1 : zS} {x1 : Int} (hx : zM (true, q) d 282 [(19, 0, 0), (0, x1, 0)] σ = some ((103, 0, 0), σ1)) : zM (true, q) (d + 1) 283 [(19, 0, 0), (0, x1, 0), (31, 1478, 1)] σ = some ((0, 1, 0), σ1) := by
  rw [ze_K_byState, zb_K_byState_0, hx]
  show zD (true, q) (d + 1) zc_K_byState (zat zc_K_byState 8) [(19, 0, 0), (0, x1, 0), (31, 1478, 1), (2, 0, 0)] [(3, 0, 0)] σ1 = _
  rw [zb_K_byState_8]
theorem k_chance_v {q : Int × (Int → Int)} {d : Nat} {σ σ1 : zS} {x1 : Int} {v : Int} (hx : zM (true, q) d 209 [(19, 0, 0), (0, x1, 0)] σ = some ((0, v, 0), σ1)) : zM (true, q) (d + 1) 210 [(19, 0, 0), (0, x1, 0), (31, 1478, 1)] σ = some ((0, 0, 0), (zup σ1.1 1478 0 v, σ1.2)) := by
  rw [ze_K_chance, zb_K_chance_0, hx, zK_i, zb_K_chance_5, zG2 (by decide) (by decide), zb_K_chance_7]
theorem k_chance_102 {q : Int × (Int → Int)} {d : Nat} {σ σ1 : zS} {x1 : Int} (hx : zM (true, q) d 209 [(19, 0, 0), (0, x1, 0)] σ = some ((102, 0, 0), σ1)) : zM (true, q) (d + 1) 210 [(19, 0, 0), (0, x1, 0), (31, 1478, 1)] σ = some ((0, 1, 0), σ1) := by
  rw [ze_K_chance, zb_K_chance_0, hx]
  show zD (true, q) (d + 1) zc_K_chance (zat zc_K_chance 8) [(19, 0, 0), (0, x1, 0), (31, 1478, 1), (2, 0, 0)] [(3, 0, 0)] σ1 = _
  rw [zb_K_chance_8]
theorem k_law_v {q : Int × (Int → Int)} {d : Nat} {σ σ1 : zS} {v : Int} (hx : zM (true, q) d 95 [(19, 0, 0)] σ = some ((0, v, 0), σ1)) : zM (true, q) (d + 1) 96 [(19, 0, 0), (31, 1478, 1)] σ = some ((0, 0, 0), (zup σ1.1 1478 0 v, σ1.2)) := by
  rw [ze_K_law, zb_K_law_0, hx, zK_i, zb_K_law_4, zG2 (by decide) (by decide), zb_K_law_6]
theorem k_law_100 {q : Int × (Int → Int)} {d : Nat} {σ σ1 : zS} (hx : zM (true, q) d 95 [(19, 0, 0)] σ = some ((100, 0, 0), σ1)) : zM (true, q) (d + 1) 96 [(19, 0, 0), (31, 1478, 1)] σ = some ((0, 1, 0), σ1) := by
  rw [ze_K_law, zb_K_law_0, hx]
  show zD (true, q) (d + 1) zc_K_law (zat zc_K_law 7) [(19, 0, 0), (31, 1478, 1), (2, 0, 0)] [(3, 0, 0)] σ1 = _
  rw [zb_K_law_7]
theorem k_led_v {q : Int × (Int → Int)} {d : Nat} {σ σ1 : zS} {x1 x2 : Int} {v : Int} (hx : zM (true, q) d 298 [(19, 0, 0), (0, x1, 0), (0, x2, 0)] σ = some ((0, v, 0), σ1)) : zM (true, q) (d + 1) 299 [(19, 0, 0), (0, x1, 0), (0, x2, 0), (31, 1478, 1)] σ = some ((0, 0, 0), (zup σ1.1 1478 0 v, σ1.2)) := by
  rw [ze_K_led, zb_K_led_0, hx, zK_i, zb_K_led_6, zG2 (by decide) (by decide), zb_K_led_8]
theorem k_led_102 {q : Int × (Int → Int)} {d : Nat} {σ σ1 : zS} {x1 x2 : Int} (hx : zM (true, q) d 298 [(19, 0, 0), (0, x1, 0), (0, x2, 0)] σ = some ((102, 0, 0), σ1)) : zM (true, q) (d + 1) 299 [(19, 0, 0), (0, x1, 0), (0, x2, 0), (31, 1478, 1)] σ = some ((0, 1, 0), σ1) := by
  rw [ze_K_led, zb_K_led_0, hx]
  show zD (true, q) (d + 1) zc_K_led (zat zc_K_led 9) [(19, 0, 0), (0, x1, 0), (0, x2, 0), (31, 1478, 1), (2, 0, 0)] [(3, 0, 0)] σ1 = _
  rw [zb_K_led_9]
theorem k_likely_v {q : Int × (Int → Int)} {d : Nat} {σ σ1 : zS} {v : Int} (hx : zM (true, q) d 245 [(19, 0, 0)] σ = some ((0, v, 0), σ1)) : zM (true, q) (d + 1) 246 [(19, 0, 0), (31, 1478, 1)] σ = some ((0, 0, 0), (zup σ1.1 1478 0 v, σ1.2)) := by
  rw [ze_K_likely, zb_K_likely_0, hx, zK_i, zb_K_likely_4, zG2 (by decide) (by decide), zb_K_likely_6]
theorem k_likely_100 {q : Int × (Int → Int)} {d : Nat} {σ σ1 : zS} (hx : zM (true, q) d 245 [(19, 0, 0)] σ = some ((100, 0, 0), σ1)) : zM (true, q) (d + 1) 246 [(19, 0, 0), (31, 1478, 1)] σ = some ((0, 1, 0), σ1) := by
  rw [ze_K_likely, zb_K_likely_0, hx]
  show zD (true, q) (d + 1) zc_K_likely (zat zc_K_likely 7) [(19, 0, 0), (31, 1478, 1), (2, 0, 0)] [(3, 0, 0)] σ1 = _
  rw [zb_K_likely_7]
theorem k_line_v {q : Int × (Int → Int)} {d : Nat} {σ σ1 : zS} {x1 x2 : Int} {v : Int} (hx : zM (true, q) d 138 [(19, 0, 0), (0, x1, 0), (0, x2, 0)] σ = some ((0, v, 0), σ1)) : zM (true, q) (d + 1) 139 [(19, 0, 0), (0, x1, 0), (0, x2, 0), (31, 1478, 1)] σ = some ((0, 0, 0), (zup σ1.1 1478 0 v, σ1.2)) := by
  rw [ze_K_line, zb_K_line_0, hx, zK_i, zb_K_line_6, zG2 (by decide) (by decide), zb_K_line_8]
theorem k_line_102 {q : Int × (Int → Int)} {d : Nat} {σ σ1 : zS} {x1 x2 : Int} (hx : zM (true, q) d 138 [(19, 0, 0), (0, x1, 0), (0, x2, 0)] σ = some ((102, 0, 0), σ1)) : zM (true, q) (d + 1) 139 [(19, 0, 0), (0, x1, 0), (0, x2, 0), (31, 1478, 1)] σ = some ((0, 1, 0), σ1) := by
  rw [ze_K_line, zb_K_line_0, hx]
  show zD (true, q) (d + 1) zc_K_line (zat zc_K_line 9) [(19, 0, 0), (0, x1, 0), (0, x2, 0), (31, 1478, 1), (2, 0, 0)] [(3, 0, 0)] σ1 = _
  rw [zb_K_line_9]
theorem k_line_103 {q : Int × (Int → Int)} {d : Nat} {σ σ1 : zS} {x1 x2 : Int} (hx : zM (true, q) d 138 [(19, 0, 0), (0, x1, 0), (0, x2, 0)] σ = some ((103, 0, 0), σ1)) : zM (true, q) (d + 1) 139 [(19, 0, 0), (0, x1, 0), (0, x2, 0), (31, 1478, 1)] σ = some ((0, 2, 0), σ1) := by
  rw [ze_K_line, zb_K_line_0, hx]
  show zD (true, q) (d + 1) zc_K_line (zat zc_K_line 12) [(19, 0, 0), (0, x1, 0), (0, x2, 0), (31, 1478, 1), (2, 0, 0)] [(3, 0, 0)] σ1 = _
  rw [zb_K_line_12]
theorem k_lines_v {q : Int × (Int → Int)} {d : Nat} {σ σ1 : zS} {v : Int} (hx : zM (true, q) d 56 [(19, 0, 0)] σ = some ((0, v, 0), σ1)) : zM (true, q) (d + 1) 57 [(19, 0, 0), (31, 1478, 1)] σ = some ((0, 0, 0), (zup σ1.1 1478 0 v, σ1.2)) := by
  rw [ze_K_lines, zb_K_lines_0, hx, zK_i, zb_K_lines_4, zG2 (by decide) (by decide), zb_K_lines_6]
theorem k_lines_100 {q : Int × (Int → Int)} {d : Nat} {σ σ1 : zS} (hx : zM (true, q) d 56 [(19, 0, 0)] σ = some ((100, 0, 0), σ1)) : zM (true, q) (d + 1) 57 [(19, 0, 0), (31, 1478, 1)] σ = some ((0, 1, 0), σ1) := by
  rw [ze_K_lines, zb_K_lines_0, hx]
  show zD (true, q) (d + 1) zc_K_lines (zat zc_K_lines 7) [(19, 0, 0), (31, 1478, 1), (2, 0, 0)] [(3, 0, 0)] σ1 = _
  rw [zb_K_lines_7]
theorem k_lines_101 {q : Int × (Int → Int)} {d : Nat} {σ σ1 : zS} (hx : zM (true, q) d 56 [(19, 0, 0)] σ = some ((101, 0, 0), σ1)) : zM (true, q) (d + 1) 57 [(19, 0, 0), (31, 1478, 1)] σ = some ((0, 2, 0), σ1) := by
  rw [ze_K_lines, zb_K_lines_0, hx]
  show zD (true, q) (d + 1) zc_K_lines (zat zc_K_lines 10) [(19, 0, 0), (31, 1478, 1), (2, 0, 0)] [(3, 0, 0)] σ1 = _
  rw [zb_K_lines_10]
theorem k_log_v {q : Int × (Int → Int)} {d : Nat} {σ σ1 : zS} {x1 x2 : Int} {v : Int} (hx : zM (true, q) d 302 [(19, 0, 0), (0, x1, 0), (0, x2, 0)] σ = some ((0, v, 0), σ1)) : zM (true, q) (d + 1) 303 [(19, 0, 0), (0, x1, 0), (0, x2, 0), (31, 1478, 1)] σ = some ((0, 0, 0), (zup σ1.1 1478 0 v, σ1.2)) := by
  rw [ze_K_log, zb_K_log_0, hx, zK_i, zb_K_log_6, zG2 (by decide) (by decide), zb_K_log_8]
theorem k_log_103 {q : Int × (Int → Int)} {d : Nat} {σ σ1 : zS} {x1 x2 : Int} (hx : zM (true, q) d 302 [(19, 0, 0), (0, x1, 0), (0, x2, 0)] σ = some ((103, 0, 0), σ1)) : zM (true, q) (d + 1) 303 [(19, 0, 0), (0, x1, 0), (0, x2, 0), (31, 1478, 1)] σ = some ((0, 1, 0), σ1) := by
  rw [ze_K_log, zb_K_log_0, hx]
  show zD (true, q) (d + 1) zc_K_log (zat zc_K_log 9) [(19, 0, 0), (0, x1, 0), (0, x2, 0), (31, 1478, 1), (2, 0, 0)] [(3, 0, 0)] σ1 = _
  rw [zb_K_log_9]
theorem k_most_v {q : Int × (Int → Int)} {d : Nat} {σ σ1 : zS} {x1 : Int} {v : Int} (hx : zM (true, q) d 278 [(19, 0, 0), (0, x1, 0)] σ = some ((0, v, 0), σ1)) : zM (true, q) (d + 1) 279 [(19, 0, 0), (0, x1, 0), (31, 1478, 1)] σ = some ((0, 0, 0), (zup σ1.1 1478 0 v, σ1.2)) := by
  rw [ze_K_most, zb_K_most_0, hx, zK_i, zb_K_most_5, zG2 (by decide) (by decide), zb_K_most_7]
theorem k_most_103 {q : Int × (Int → Int)} {d : Nat} {σ σ1 : zS} {x1 : Int} (hx : zM (true, q) d 278 [(19, 0, 0), (0, x1, 0)] σ = some ((103, 0, 0), σ1)) : zM (true, q) (d + 1) 279 [(19, 0, 0), (0, x1, 0), (31, 1478, 1)] σ = some ((0, 1, 0), σ1) := by
  rw [ze_K_most, zb_K_most_0, hx]
  show zD (true, q) (d + 1) zc_K_most (zat zc_K_most 8) [(19, 0, 0), (0, x1, 0), (31, 1478, 1), (2, 0, 0)] [(3, 0, 0)] σ1 = _
  rw [zb_K_most_8]
theorem k_odds_v {q : Int × (Int → Int)} {d : Nat} {σ σ1 : zS} {x1 x2 x3 : Int} {v : Int} (hx : zM (true, q) d 275 [(19, 0, 0), (0, x1, 0), (0, x2, 0), (0, x3, 0)] σ = some ((0, v, 0), σ1)) : zM (true, q) (d + 1) 276 [(19, 0, 0), (0, x1, 0), (0, x2, 0), (0, x3, 0), (31, 1478, 1)] σ = some ((0, 0, 0), (zup σ1.1 1478 0 v, σ1.2)) := by
  rw [ze_K_odds, zb_K_odds_0, hx, zK_i, zb_K_odds_7, zG2 (by decide) (by decide), zb_K_odds_9]
theorem k_odds_102 {q : Int × (Int → Int)} {d : Nat} {σ σ1 : zS} {x1 x2 x3 : Int} (hx : zM (true, q) d 275 [(19, 0, 0), (0, x1, 0), (0, x2, 0), (0, x3, 0)] σ = some ((102, 0, 0), σ1)) : zM (true, q) (d + 1) 276 [(19, 0, 0), (0, x1, 0), (0, x2, 0), (0, x3, 0), (31, 1478, 1)] σ = some ((0, 1, 0), σ1) := by
  rw [ze_K_odds, zb_K_odds_0, hx]
  show zD (true, q) (d + 1) zc_K_odds (zat zc_K_odds 10) [(19, 0, 0), (0, x1, 0), (0, x2, 0), (0, x3, 0), (31, 1478, 1), (2, 0, 0)] [(3, 0, 0)] σ1 = _
  rw [zb_K_odds_10]
theorem k_odds_100 {q : Int × (Int → Int)} {d : Nat} {σ σ1 : zS} {x1 x2 x3 : Int} (hx : zM (true, q) d 275 [(19, 0, 0), (0, x1, 0), (0, x2, 0), (0, x3, 0)] σ = some ((100, 0, 0), σ1)) : zM (true, q) (d + 1) 276 [(19, 0, 0), (0, x1, 0), (0, x2, 0), (0, x3, 0), (31, 1478, 1)] σ = some ((0, 2, 0), σ1) := by
  rw [ze_K_odds, zb_K_odds_0, hx]
  show zD (true, q) (d + 1) zc_K_odds (zat zc_K_odds 13) [(19, 0, 0), (0, x1, 0), (0, x2, 0), (0, x3, 0), (31, 1478, 1), (2, 0, 0)] [(3, 0, 0)] σ1 = _
  rw [zb_K_odds_13]
theorem k_pairs_v {q : Int × (Int → Int)} {d : Nat} {σ σ1 : zS} {x1 : Int} {v : Int} (hx : zM (true, q) d 256 [(19, 0, 0), (0, x1, 0)] σ = some ((0, v, 0), σ1)) : zM (true, q) (d + 1) 257 [(19, 0, 0), (0, x1, 0), (31, 1478, 1)] σ = some ((0, 0, 0), (zup σ1.1 1478 0 v, σ1.2)) := by
  rw [ze_K_pairs, zb_K_pairs_0, hx, zK_i, zb_K_pairs_5, zG2 (by decide) (by decide), zb_K_pairs_7]
theorem k_pairs_102 {q : Int × (Int → Int)} {d : Nat} {σ σ1 : zS} {x1 : Int} (hx : zM (true, q) d 256 [(19, 0, 0), (0, x1, 0)] σ = some ((102, 0, 0), σ1)) : zM (true, q) (d + 1) 257 [(19, 0, 0), (0, x1, 0), (31, 1478, 1)] σ = some ((0, 1, 0), σ1) := by
  rw [ze_K_pairs, zb_K_pairs_0, hx]
  show zD (true, q) (d + 1) zc_K_pairs (zat zc_K_pairs 8) [(19, 0, 0), (0, x1, 0), (31, 1478, 1), (2, 0, 0)] [(3, 0, 0)] σ1 = _
  rw [zb_K_pairs_8]
theorem k_period_v {q : Int × (Int → Int)} {d : Nat} {σ σ1 : zS} {v : Int} (hx : zM (true, q) d 236 [(19, 0, 0)] σ = some ((0, v, 0), σ1)) : zM (true, q) (d + 1) 237 [(19, 0, 0), (31, 1478, 1)] σ = some ((0, 0, 0), (zup σ1.1 1478 0 v, σ1.2)) := by
  rw [ze_K_period, zb_K_period_0, hx, zK_i, zb_K_period_4, zG2 (by decide) (by decide), zb_K_period_6]
theorem k_period_100 {q : Int × (Int → Int)} {d : Nat} {σ σ1 : zS} (hx : zM (true, q) d 236 [(19, 0, 0)] σ = some ((100, 0, 0), σ1)) : zM (true, q) (d + 1) 237 [(19, 0, 0), (31, 1478, 1)] σ = some ((0, 1, 0), σ1) := by
  rw [ze_K_period, zb_K_period_0, hx]
  show zD (true, q) (d + 1) zc_K_period (zat zc_K_period 7) [(19, 0, 0), (31, 1478, 1), (2, 0, 0)] [(3, 0, 0)] σ1 = _
  rw [zb_K_period_7]
theorem k_probe_v {q : Int × (Int → Int)} {d : Nat} {σ σ1 : zS} {v : Int} (hx : zM (true, q) d 250 [(19, 0, 0)] σ = some ((0, v, 0), σ1)) : zM (true, q) (d + 1) 251 [(19, 0, 0), (31, 1478, 1)] σ = some ((0, 0, 0), (zup σ1.1 1478 0 v, σ1.2)) := by
  rw [ze_K_probe, zb_K_probe_0, hx, zK_i, zb_K_probe_4, zG2 (by decide) (by decide), zb_K_probe_6]
theorem k_probe_100 {q : Int × (Int → Int)} {d : Nat} {σ σ1 : zS} (hx : zM (true, q) d 250 [(19, 0, 0)] σ = some ((100, 0, 0), σ1)) : zM (true, q) (d + 1) 251 [(19, 0, 0), (31, 1478, 1)] σ = some ((0, 1, 0), σ1) := by
  rw [ze_K_probe, zb_K_probe_0, hx]
  show zD (true, q) (d + 1) zc_K_probe (zat zc_K_probe 7) [(19, 0, 0), (31, 1478, 1), (2, 0, 0)] [(3, 0, 0)] σ1 = _
  rw [zb_K_probe_7]
theorem k_reply_v {q : Int × (Int → Int)} {d : Nat} {σ σ1 : zS} {x1 x2 : Int} {v : Int} (hx : zM (true, q) d 179 [(19, 0, 0), (0, x1, 0), (0, x2, 0)] σ = some ((0, v, 0), σ1)) : zM (true, q) (d + 1) 180 [(19, 0, 0), (0, x1, 0), (0, x2, 0), (31, 1478, 1)] σ = some ((0, 0, 0), (zup σ1.1 1478 0 v, σ1.2)) := by
  rw [ze_K_reply, zb_K_reply_0, hx, zK_i, zb_K_reply_6, zG2 (by decide) (by decide), zb_K_reply_8]
theorem k_reply_102 {q : Int × (Int → Int)} {d : Nat} {σ σ1 : zS} {x1 x2 : Int} (hx : zM (true, q) d 179 [(19, 0, 0), (0, x1, 0), (0, x2, 0)] σ = some ((102, 0, 0), σ1)) : zM (true, q) (d + 1) 180 [(19, 0, 0), (0, x1, 0), (0, x2, 0), (31, 1478, 1)] σ = some ((0, 1, 0), σ1) := by
  rw [ze_K_reply, zb_K_reply_0, hx]
  show zD (true, q) (d + 1) zc_K_reply (zat zc_K_reply 9) [(19, 0, 0), (0, x1, 0), (0, x2, 0), (31, 1478, 1), (2, 0, 0)] [(3, 0, 0)] σ1 = _
  rw [zb_K_reply_9]
theorem k_rests_v {q : Int × (Int → Int)} {d : Nat} {σ σ1 : zS} {x1 : Int} {v : Int} (hx : zM (true, q) d 269 [(19, 0, 0), (0, x1, 0)] σ = some ((0, v, 0), σ1)) : zM (true, q) (d + 1) 270 [(19, 0, 0), (0, x1, 0), (31, 1478, 1)] σ = some ((0, 0, 0), (zup σ1.1 1478 0 v, σ1.2)) := by
  rw [ze_K_rests, zb_K_rests_0, hx, zK_i, zb_K_rests_5, zG2 (by decide) (by decide), zb_K_rests_7]
theorem k_rests_102 {q : Int × (Int → Int)} {d : Nat} {σ σ1 : zS} {x1 : Int} (hx : zM (true, q) d 269 [(19, 0, 0), (0, x1, 0)] σ = some ((102, 0, 0), σ1)) : zM (true, q) (d + 1) 270 [(19, 0, 0), (0, x1, 0), (31, 1478, 1)] σ = some ((0, 1, 0), σ1) := by
  rw [ze_K_rests, zb_K_rests_0, hx]
  show zD (true, q) (d + 1) zc_K_rests (zat zc_K_rests 8) [(19, 0, 0), (0, x1, 0), (31, 1478, 1), (2, 0, 0)] [(3, 0, 0)] σ1 = _
  rw [zb_K_rests_8]
theorem k_share_v {q : Int × (Int → Int)} {d : Nat} {σ σ1 : zS} {x1 x2 : Int} {v : Int} (hx : zM (true, q) d 264 [(19, 0, 0), (0, x1, 0), (0, x2, 0)] σ = some ((0, v, 0), σ1)) : zM (true, q) (d + 1) 265 [(19, 0, 0), (0, x1, 0), (0, x2, 0), (31, 1478, 1)] σ = some ((0, 0, 0), (zup σ1.1 1478 0 v, σ1.2)) := by
  rw [ze_K_share, zb_K_share_0, hx, zK_i, zb_K_share_6, zG2 (by decide) (by decide), zb_K_share_8]
theorem k_share_102 {q : Int × (Int → Int)} {d : Nat} {σ σ1 : zS} {x1 x2 : Int} (hx : zM (true, q) d 264 [(19, 0, 0), (0, x1, 0), (0, x2, 0)] σ = some ((102, 0, 0), σ1)) : zM (true, q) (d + 1) 265 [(19, 0, 0), (0, x1, 0), (0, x2, 0), (31, 1478, 1)] σ = some ((0, 1, 0), σ1) := by
  rw [ze_K_share, zb_K_share_0, hx]
  show zD (true, q) (d + 1) zc_K_share (zat zc_K_share 9) [(19, 0, 0), (0, x1, 0), (0, x2, 0), (31, 1478, 1), (2, 0, 0)] [(3, 0, 0)] σ1 = _
  rw [zb_K_share_9]
theorem k_share_100 {q : Int × (Int → Int)} {d : Nat} {σ σ1 : zS} {x1 x2 : Int} (hx : zM (true, q) d 264 [(19, 0, 0), (0, x1, 0), (0, x2, 0)] σ = some ((100, 0, 0), σ1)) : zM (true, q) (d + 1) 265 [(19, 0, 0), (0, x1, 0), (0, x2, 0), (31, 1478, 1)] σ = some ((0, 2, 0), σ1) := by
  rw [ze_K_share, zb_K_share_0, hx]
  show zD (true, q) (d + 1) zc_K_share (zat zc_K_share 12) [(19, 0, 0), (0, x1, 0), (0, x2, 0), (31, 1478, 1), (2, 0, 0)] [(3, 0, 0)] σ1 = _
  rw [zb_K_share_12]
theorem k_shut_v {q : Int × (Int → Int)} {d : Nat} {σ σ1 : zS} {x1 : Int} {v : Int} (hx : zM (true, q) d 199 [(19, 0, 0), (0, x1, 0)] σ = some ((0, v, 0), σ1)) : zM (true, q) (d + 1) 200 [(19, 0, 0), (0, x1, 0), (31, 1478, 1)] σ = some ((0, 0, 0), (zup σ1.1 1478 0 v, σ1.2)) := by
  rw [ze_K_shut, zb_K_shut_0, hx, zK_i, zb_K_shut_5, zG2 (by decide) (by decide), zb_K_shut_7]
theorem k_shut_102 {q : Int × (Int → Int)} {d : Nat} {σ σ1 : zS} {x1 : Int} (hx : zM (true, q) d 199 [(19, 0, 0), (0, x1, 0)] σ = some ((102, 0, 0), σ1)) : zM (true, q) (d + 1) 200 [(19, 0, 0), (0, x1, 0), (31, 1478, 1)] σ = some ((0, 1, 0), σ1) := by
  rw [ze_K_shut, zb_K_shut_0, hx]
  show zD (true, q) (d + 1) zc_K_shut (zat zc_K_shut 8) [(19, 0, 0), (0, x1, 0), (31, 1478, 1), (2, 0, 0)] [(3, 0, 0)] σ1 = _
  rw [zb_K_shut_8]
theorem k_shut_104 {q : Int × (Int → Int)} {d : Nat} {σ σ1 : zS} {x1 : Int} (hx : zM (true, q) d 199 [(19, 0, 0), (0, x1, 0)] σ = some ((104, 0, 0), σ1)) : zM (true, q) (d + 1) 200 [(19, 0, 0), (0, x1, 0), (31, 1478, 1)] σ = some ((0, 2, 0), σ1) := by
  rw [ze_K_shut, zb_K_shut_0, hx]
  show zD (true, q) (d + 1) zc_K_shut (zat zc_K_shut 11) [(19, 0, 0), (0, x1, 0), (31, 1478, 1), (2, 0, 0)] [(3, 0, 0)] σ1 = _
  rw [zb_K_shut_11]
theorem k_span_v {q : Int × (Int → Int)} {d : Nat} {σ σ1 : zS} {x1 x2 : Int} {v : Int} (hx : zM (true, q) d 294 [(19, 0, 0), (0, x1, 0), (0, x2, 0)] σ = some ((0, v, 0), σ1)) : zM (true, q) (d + 1) 295 [(19, 0, 0), (0, x1, 0), (0, x2, 0), (31, 1478, 1)] σ = some ((0, 0, 0), (zup σ1.1 1478 0 v, σ1.2)) := by
  rw [ze_K_span, zb_K_span_0, hx, zK_i, zb_K_span_6, zG2 (by decide) (by decide), zb_K_span_8]
theorem k_span_100 {q : Int × (Int → Int)} {d : Nat} {σ σ1 : zS} {x1 x2 : Int} (hx : zM (true, q) d 294 [(19, 0, 0), (0, x1, 0), (0, x2, 0)] σ = some ((100, 0, 0), σ1)) : zM (true, q) (d + 1) 295 [(19, 0, 0), (0, x1, 0), (0, x2, 0), (31, 1478, 1)] σ = some ((0, 1, 0), σ1) := by
  rw [ze_K_span, zb_K_span_0, hx]
  show zD (true, q) (d + 1) zc_K_span (zat zc_K_span 9) [(19, 0, 0), (0, x1, 0), (0, x2, 0), (31, 1478, 1), (2, 0, 0)] [(3, 0, 0)] σ1 = _
  rw [zb_K_span_9]
theorem k_start_v {q : Int × (Int → Int)} {d : Nat} {σ σ1 : zS} {x1 : Int} {v : Int} (hx : zM (true, q) d 194 [(19, 0, 0), (0, x1, 0)] σ = some ((0, v, 0), σ1)) : zM (true, q) (d + 1) 195 [(19, 0, 0), (0, x1, 0), (31, 1478, 1)] σ = some ((0, 0, 0), (zup σ1.1 1478 0 v, σ1.2)) := by
  rw [ze_K_start, zb_K_start_0, hx, zK_i, zb_K_start_5, zG2 (by decide) (by decide), zb_K_start_7]
theorem k_start_102 {q : Int × (Int → Int)} {d : Nat} {σ σ1 : zS} {x1 : Int} (hx : zM (true, q) d 194 [(19, 0, 0), (0, x1, 0)] σ = some ((102, 0, 0), σ1)) : zM (true, q) (d + 1) 195 [(19, 0, 0), (0, x1, 0), (31, 1478, 1)] σ = some ((0, 1, 0), σ1) := by
  rw [ze_K_start, zb_K_start_0, hx]
  show zD (true, q) (d + 1) zc_K_start (zat zc_K_start 8) [(19, 0, 0), (0, x1, 0), (31, 1478, 1), (2, 0, 0)] [(3, 0, 0)] σ1 = _
  rw [zb_K_start_8]
theorem k_start_104 {q : Int × (Int → Int)} {d : Nat} {σ σ1 : zS} {x1 : Int} (hx : zM (true, q) d 194 [(19, 0, 0), (0, x1, 0)] σ = some ((104, 0, 0), σ1)) : zM (true, q) (d + 1) 195 [(19, 0, 0), (0, x1, 0), (31, 1478, 1)] σ = some ((0, 2, 0), σ1) := by
  rw [ze_K_start, zb_K_start_0, hx]
  show zD (true, q) (d + 1) zc_K_start (zat zc_K_start 11) [(19, 0, 0), (0, x1, 0), (31, 1478, 1), (2, 0, 0)] [(3, 0, 0)] σ1 = _
  rw [zb_K_start_11]
theorem k_takes_v {q : Int × (Int → Int)} {d : Nat} {σ σ1 : zS} {x1 : Int} {v : Int} (hx : zM (true, q) d 227 [(19, 0, 0), (0, x1, 0)] σ = some ((0, v, 0), σ1)) : zM (true, q) (d + 1) 228 [(19, 0, 0), (0, x1, 0), (31, 1478, 1)] σ = some ((0, 0, 0), (zup σ1.1 1478 0 v, σ1.2)) := by
  rw [ze_K_takes, zb_K_takes_0, hx, zK_i, zb_K_takes_5, zG2 (by decide) (by decide), zb_K_takes_7]
theorem k_takes_100 {q : Int × (Int → Int)} {d : Nat} {σ σ1 : zS} {x1 : Int} (hx : zM (true, q) d 227 [(19, 0, 0), (0, x1, 0)] σ = some ((100, 0, 0), σ1)) : zM (true, q) (d + 1) 228 [(19, 0, 0), (0, x1, 0), (31, 1478, 1)] σ = some ((0, 1, 0), σ1) := by
  rw [ze_K_takes, zb_K_takes_0, hx]
  show zD (true, q) (d + 1) zc_K_takes (zat zc_K_takes 8) [(19, 0, 0), (0, x1, 0), (31, 1478, 1), (2, 0, 0)] [(3, 0, 0)] σ1 = _
  rw [zb_K_takes_8]
theorem k_tell_v {q : Int × (Int → Int)} {d : Nat} {σ σ1 : zS} {x1 x2 : Int} {v : Int} (hx : zM (true, q) d 188 [(19, 0, 0), (0, x1, 0), (0, x2, 0)] σ = some ((0, v, 0), σ1)) : zM (true, q) (d + 1) 189 [(19, 0, 0), (0, x1, 0), (0, x2, 0), (31, 1478, 1)] σ = some ((0, 0, 0), (zup σ1.1 1478 0 v, σ1.2)) := by
  rw [ze_K_tell, zb_K_tell_0, hx, zK_i, zb_K_tell_6, zG2 (by decide) (by decide), zb_K_tell_8]
theorem k_tell_102 {q : Int × (Int → Int)} {d : Nat} {σ σ1 : zS} {x1 x2 : Int} (hx : zM (true, q) d 188 [(19, 0, 0), (0, x1, 0), (0, x2, 0)] σ = some ((102, 0, 0), σ1)) : zM (true, q) (d + 1) 189 [(19, 0, 0), (0, x1, 0), (0, x2, 0), (31, 1478, 1)] σ = some ((0, 1, 0), σ1) := by
  rw [ze_K_tell, zb_K_tell_0, hx]
  show zD (true, q) (d + 1) zc_K_tell (zat zc_K_tell 9) [(19, 0, 0), (0, x1, 0), (0, x2, 0), (31, 1478, 1), (2, 0, 0)] [(3, 0, 0)] σ1 = _
  rw [zb_K_tell_9]
theorem k_tell_100 {q : Int × (Int → Int)} {d : Nat} {σ σ1 : zS} {x1 x2 : Int} (hx : zM (true, q) d 188 [(19, 0, 0), (0, x1, 0), (0, x2, 0)] σ = some ((100, 0, 0), σ1)) : zM (true, q) (d + 1) 189 [(19, 0, 0), (0, x1, 0), (0, x2, 0), (31, 1478, 1)] σ = some ((0, 2, 0), σ1) := by
  rw [ze_K_tell, zb_K_tell_0, hx]
  show zD (true, q) (d + 1) zc_K_tell (zat zc_K_tell 12) [(19, 0, 0), (0, x1, 0), (0, x2, 0), (31, 1478, 1), (2, 0, 0)] [(3, 0, 0)] σ1 = _
  rw [zb_K_tell_12]
theorem k_tell_104 {q : Int × (Int → Int)} {d : Nat} {σ σ1 : zS} {x1 x2 : Int} (hx : zM (true, q) d 188 [(19, 0, 0), (0, x1, 0), (0, x2, 0)] σ = some ((104, 0, 0), σ1)) : zM (true, q) (d + 1) 189 [(19, 0, 0), (0, x1, 0), (0, x2, 0), (31, 1478, 1)] σ = some ((0, 3, 0), σ1) := by
  rw [ze_K_tell, zb_K_tell_0, hx]
  show zD (true, q) (d + 1) zc_K_tell (zat zc_K_tell 15) [(19, 0, 0), (0, x1, 0), (0, x2, 0), (31, 1478, 1), (2, 0, 0)] [(3, 0, 0)] σ1 = _
  rw [zb_K_tell_15]
theorem k_ticks_v {q : Int × (Int → Int)} {d : Nat} {σ σ1 : zS} {x1 : Int} {v : Int} (hx : zM (true, q) d 184 [(19, 0, 0), (0, x1, 0)] σ = some ((0, v, 0), σ1)) : zM (true, q) (d + 1) 185 [(19, 0, 0), (0, x1, 0), (31, 1478, 1)] σ = some ((0, 0, 0), (zup σ1.1 1478 0 v, σ1.2)) := by
  rw [ze_K_ticks, zb_K_ticks_0, hx, zK_i, zb_K_ticks_5, zG2 (by decide) (by decide), zb_K_ticks_7]
theorem k_ticks_100 {q : Int × (Int → Int)} {d : Nat} {σ σ1 : zS} {x1 : Int} (hx : zM (true, q) d 184 [(19, 0, 0), (0, x1, 0)] σ = some ((100, 0, 0), σ1)) : zM (true, q) (d + 1) 185 [(19, 0, 0), (0, x1, 0), (31, 1478, 1)] σ = some ((0, 1, 0), σ1) := by
  rw [ze_K_ticks, zb_K_ticks_0, hx]
  show zD (true, q) (d + 1) zc_K_ticks (zat zc_K_ticks 8) [(19, 0, 0), (0, x1, 0), (31, 1478, 1), (2, 0, 0)] [(3, 0, 0)] σ1 = _
  rw [zb_K_ticks_8]
theorem k_trial_v {q : Int × (Int → Int)} {d : Nat} {σ σ1 : zS} {x1 x2 : Int} {v : Int} (hx : zM (true, q) d 291 [(19, 0, 0), (0, x1, 0), (0, x2, 0)] σ = some ((0, v, 0), σ1)) : zM (true, q) (d + 1) 292 [(19, 0, 0), (0, x1, 0), (0, x2, 0), (31, 1478, 1)] σ = some ((0, 0, 0), (zup σ1.1 1478 0 v, σ1.2)) := by
  rw [ze_K_trial, zb_K_trial_0, hx, zK_i, zb_K_trial_6, zG2 (by decide) (by decide), zb_K_trial_8]
theorem k_trial_100 {q : Int × (Int → Int)} {d : Nat} {σ σ1 : zS} {x1 x2 : Int} (hx : zM (true, q) d 291 [(19, 0, 0), (0, x1, 0), (0, x2, 0)] σ = some ((100, 0, 0), σ1)) : zM (true, q) (d + 1) 292 [(19, 0, 0), (0, x1, 0), (0, x2, 0), (31, 1478, 1)] σ = some ((0, 1, 0), σ1) := by
  rw [ze_K_trial, zb_K_trial_0, hx]
  show zD (true, q) (d + 1) zc_K_trial (zat zc_K_trial 9) [(19, 0, 0), (0, x1, 0), (0, x2, 0), (31, 1478, 1), (2, 0, 0)] [(3, 0, 0)] σ1 = _
  rw [zb_K_trial_9]
theorem k_tune_v {q : Int × (Int → Int)} {d : Nat} {σ σ1 : zS} {x1 x2 x3 : Int} {v : Int} (hx : zM (true, q) d 203 [(19, 0, 0), (0, x1, 0), (0, x2, 0), (0, x3, 0)] σ = some ((0, v, 0), σ1)) : zM (true, q) (d + 1) 204 [(19, 0, 0), (0, x1, 0), (0, x2, 0), (0, x3, 0), (31, 1478, 1)] σ = some ((0, 0, 0), (zup σ1.1 1478 0 v, σ1.2)) := by
  rw [ze_K_tune, zb_K_tune_0, hx, zK_i, zb_K_tune_7, zG2 (by decide) (by decide), zb_K_tune_9]
theorem k_tune_102 {q : Int × (Int → Int)} {d : Nat} {σ σ1 : zS} {x1 x2 x3 : Int} (hx : zM (true, q) d 203 [(19, 0, 0), (0, x1, 0), (0, x2, 0), (0, x3, 0)] σ = some ((102, 0, 0), σ1)) : zM (true, q) (d + 1) 204 [(19, 0, 0), (0, x1, 0), (0, x2, 0), (0, x3, 0), (31, 1478, 1)] σ = some ((0, 1, 0), σ1) := by
  rw [ze_K_tune, zb_K_tune_0, hx]
  show zD (true, q) (d + 1) zc_K_tune (zat zc_K_tune 10) [(19, 0, 0), (0, x1, 0), (0, x2, 0), (0, x3, 0), (31, 1478, 1), (2, 0, 0)] [(3, 0, 0)] σ1 = _
  rw [zb_K_tune_10]
theorem k_tune_103 {q : Int × (Int → Int)} {d : Nat} {σ σ1 : zS} {x1 x2 x3 : Int} (hx : zM (true, q) d 203 [(19, 0, 0), (0, x1, 0), (0, x2, 0), (0, x3, 0)] σ = some ((103, 0, 0), σ1)) : zM (true, q) (d + 1) 204 [(19, 0, 0), (0, x1, 0), (0, x2, 0), (0, x3, 0), (31, 1478, 1)] σ = some ((0, 2, 0), σ1) := by
  rw [ze_K_tune, zb_K_tune_0, hx]
  show zD (true, q) (d + 1) zc_K_tune (zat zc_K_tune 13) [(19, 0, 0), (0, x1, 0), (0, x2, 0), (0, x3, 0), (31, 1478, 1), (2, 0, 0)] [(3, 0, 0)] σ1 = _
  rw [zb_K_tune_13]
theorem k_tune_100 {q : Int × (Int → Int)} {d : Nat} {σ σ1 : zS} {x1 x2 x3 : Int} (hx : zM (true, q) d 203 [(19, 0, 0), (0, x1, 0), (0, x2, 0), (0, x3, 0)] σ = some ((100, 0, 0), σ1)) : zM (true, q) (d + 1) 204 [(19, 0, 0), (0, x1, 0), (0, x2, 0), (0, x3, 0), (31, 1478, 1)] σ = some ((0, 3, 0), σ1) := by
  rw [ze_K_tune, zb_K_tune_0, hx]
  show zD (true, q) (d + 1) zc_K_tune (zat zc_K_tune 16) [(19, 0, 0), (0, x1, 0), (0, x2, 0), (0, x3, 0), (31, 1478, 1), (2, 0, 0)] [(3, 0, 0)] σ1 = _
  rw [zb_K_tune_16]
theorem k_unit_v {q : Int × (Int → Int)} {d : Nat} {σ σ1 : zS} {x1 x2 x3 : Int} {v : Int} (hx : zM (true, q) d 173 [(19, 0, 0), (0, x1, 0), (0, x2, 0), (0, x3, 0)] σ = some ((0, v, 0), σ1)) : zM (true, q) (d + 1) 174 [(19, 0, 0), (0, x1, 0), (0, x2, 0), (0, x3, 0), (31, 1478, 1)] σ = some ((0, 0, 0), (zup σ1.1 1478 0 v, σ1.2)) := by
  rw [ze_K_unit, zb_K_unit_0, hx, zK_i, zb_K_unit_7, zG2 (by decide) (by decide), zb_K_unit_9]
theorem k_unit_102 {q : Int × (Int → Int)} {d : Nat} {σ σ1 : zS} {x1 x2 x3 : Int} (hx : zM (true, q) d 173 [(19, 0, 0), (0, x1, 0), (0, x2, 0), (0, x3, 0)] σ = some ((102, 0, 0), σ1)) : zM (true, q) (d + 1) 174 [(19, 0, 0), (0, x1, 0), (0, x2, 0), (0, x3, 0), (31, 1478, 1)] σ = some ((0, 1, 0), σ1) := by
  rw [ze_K_unit, zb_K_unit_0, hx]
  show zD (true, q) (d + 1) zc_K_unit (zat zc_K_unit 10) [(19, 0, 0), (0, x1, 0), (0, x2, 0), (0, x3, 0), (31, 1478, 1), (2, 0, 0)] [(3, 0, 0)] σ1 = _
  rw [zb_K_unit_10]
theorem k_unit_103 {q : Int × (Int → Int)} {d : Nat} {σ σ1 : zS} {x1 x2 x3 : Int} (hx : zM (true, q) d 173 [(19, 0, 0), (0, x1, 0), (0, x2, 0), (0, x3, 0)] σ = some ((103, 0, 0), σ1)) : zM (true, q) (d + 1) 174 [(19, 0, 0), (0, x1, 0), (0, x2, 0), (0, x3, 0), (31, 1478, 1)] σ = some ((0, 2, 0), σ1) := by
  rw [ze_K_unit, zb_K_unit_0, hx]
  show zD (true, q) (d + 1) zc_K_unit (zat zc_K_unit 13) [(19, 0, 0), (0, x1, 0), (0, x2, 0), (0, x3, 0), (31, 1478, 1), (2, 0, 0)] [(3, 0, 0)] σ1 = _
  rw [zb_K_unit_13]
