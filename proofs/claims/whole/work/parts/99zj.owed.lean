/-! ## what is owed of the loop -/
theorem zOwed_proof : zOwed := by
  intro L xs hL
  obtain ⟨σf, r, e1, e2⟩ := zw_loop (q := ((L : Int), fun i => (xs i.toNat).toInt)) (by show (0 : Int) ≤ (L : Int); omega) (by show (L : Int) ≤ 3072; omega) 512 0 0 zBf (fun _ => -1, 1479, 49774, 1479, zupsB zC_mod_I zXG22) (2, 0, 0) (2, 0, 0) zB_0 (by decide) (by decide) (by show (L : Int) < 0 + 6 * ((512 : Nat) : Int) + 6; omega)
  have e1 : σf.2.2.1 ≤ 1479 + 512 := e1
  have e2 : σf.2.2.2.1 ≤ 49774 + 6 * 512 := e2
  obtain ⟨n, hn⟩ := zD_iff.mp r
  have c316 : zmc 316 = zc_K_law2 := rfl
  have l13 : zlw 13 = zat zc_K_law2 13 := rfl
  refine ⟨n, 0, σf, ?_, by omega, by omega⟩
  rw [c316, l13]
  exact hn
