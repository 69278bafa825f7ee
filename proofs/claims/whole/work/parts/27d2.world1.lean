theorem zWr_23 : zRq (zRn 4000 5 (zmc 9) (zmc 9).1 (zpad (zml 9) [(18, 23, 0)]) [] ([], 0, 0, 24, [])) (zLW 23, 94, 1667, 118, zLI 23) = true := by decide +kernel
set_option maxRecDepth 100000 in
theorem zW_23 (q : Int × (Int → Int)) (d : Nat) (f : Int → Int → Int) (w : Int → Int) (c s : Nat) (g : Int → Int → Bool) : zX (false, q) 4000 (d + 5) (zmc 9) (zmc 9).1 (zpad (zml 9) [(18, 23, 0)]) [] (f, w, c, s, 24, g) = some ((9, 0, 0), (zups (zLW 23) f, w, c + 94, s + 1667, 118, zupsB (zLI 23) g)) := zRn_ok (f := f) (w := w) (c0 := c) (s0 := s) (e := d) (g := g) _ _ _ _ _ _ _ _ _ (zRq_ok zWr_23)
