/-! ## the other form: what a line does next, what is sent -/
theorem r_fits {q : Int × (Int → Int)} {d : Nat} {f : Int → Int → Int} {t : (Int → Int) × Nat × Nat × Nat × (Int → Int → Bool)} {g : Int → Int} {l : Int} (hl : 0 ≤ l) (hl4 : l < 4) (k0 : 0 ≤ g (10 + 265 * l + 7)) (k8 : g (10 + 265 * l + 7) ≤ 8) (kg : ∀ k, 0 ≤ k → k < g (10 + 265 * l + 7) → 0 ≤ g (10 + 265 * l + (17 + 4 * k + 1)) ∧ g (10 + 265 * l + (17 + 4 * k + 1)) ≤ 9) (qg : 0 ≤ g (10 + 265 * l + (73 + 2 * 0 + 1)) ∧ g (10 + 265 * l + (73 + 2 * 0 + 1)) ≤ 9) : zM (true, q) (d + 3) 145 [(20, 1464, 0), (0, l, 0)] (zrow f 1465 g, t) = some ((0, if g (10 + 265 * l + 7) < g (10 + 265 * l + 3) ∧ zsum (fun k => g (10 + 265 * l + (17 + 4 * k + 1))) (g (10 + 265 * l + 7)).toNat 0 + g (10 + 265 * l + (73 + 2 * 0 + 1)) ≤ g (10 + 265 * l + 4) then 1 else 0, 0), (zrow f 1465 g, t)) := by
  have h1 := zsum_rng (g := fun k => g (10 + 265 * l + (17 + 4 * k + 1))) (lo := 0) (hi := 9) (g (10 + 265 * l + 7)).toNat 0 (fun k h1 h2 => kg k h1 (by omega))
  by_cases c1 : g (10 + 265 * l + 3) ≤ g (10 + 265 * l + 7)
  · rw [if_neg (by omega)]
    rw [ze_M_fits, zb_M_fits_0, r_of (by omega) (by omega) (by omega) (by omega) , zK_i, zb_M_fits_4, r_of (by omega) (by omega) (by omega) (by omega) , zK_i, zb_M_fits_8, if_pos (c1), zb_M_fits_25, zG2 (by omega) (by omega)]
  · by_cases c2 : g (10 + 265 * l + 4) < zsum (fun k => g (10 + 265 * l + (17 + 4 * k + 1))) (g (10 + 265 * l + 7)).toNat 0 + g (10 + 265 * l + (73 + 2 * 0 + 1))
    · rw [if_neg (by omega)]
      rw [ze_M_fits, zb_M_fits_0, r_of (by omega) (by omega) (by omega) (by omega) , zK_i, zb_M_fits_4, r_of (by omega) (by omega) (by omega) (by omega) , zK_i, zb_M_fits_8, if_neg (c1), zb_M_fits_9, r_octetsKept hl hl4 k0 k8 kg, zK_i, zb_M_fits_12, r_queued (by omega) (by omega) (by omega) (by omega) (by omega) (by omega) , zK_i, zb_M_fits_17]
      try simp (disch := omega) only [zw_id]
      rw [r_of (by omega) (by omega) (by omega) (by omega) , zK_i, zb_M_fits_22, if_pos (c2), zb_M_fits_25, zG2 (by omega) (by omega)]
    · rw [if_pos (by omega)]
      rw [ze_M_fits, zb_M_fits_0, r_of (by omega) (by omega) (by omega) (by omega) , zK_i, zb_M_fits_4, r_of (by omega) (by omega) (by omega) (by omega) , zK_i, zb_M_fits_8, if_neg (c1), zb_M_fits_9, r_octetsKept hl hl4 k0 k8 kg, zK_i, zb_M_fits_12, r_queued (by omega) (by omega) (by omega) (by omega) (by omega) (by omega) , zK_i, zb_M_fits_17]
      try simp (disch := omega) only [zw_id]
      rw [r_of (by omega) (by omega) (by omega) (by omega) , zK_i, zb_M_fits_22, if_neg (c2), zb_M_fits_23, zG2 (by omega) (by omega)]
