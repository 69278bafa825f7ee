set_option maxRecDepth 100000 in
set_option maxHeartbeats 40000000 in
theorem zW_23 (q : Int × (Int → Int)) (d : Nat) (f : Int → Int → Int) (w : Int → Int) (c s : Nat) (g : Int → Int → Bool) : zX (false, q) 4000 (d + 5) (zmc 9) (zmc 9).1 (zpad (zml 9) [(18, 23, 0)]) [] (f, w, c, s, 24, g) = some ((9, 0, 0), (zups (zLW 23) f, w, c + 94, s + 1667, 118, zupsB (zLI 23) g)) := rfl
