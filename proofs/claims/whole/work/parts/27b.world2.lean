set_option maxRecDepth 100000 in
set_option maxHeartbeats 40000000 in
theorem zW_118 (q : Int × (Int → Int)) (d : Nat) (f : Int → Int → Int) (w : Int → Int) (c s : Nat) (g : Int → Int → Bool) : zX (false, q) 4000 (d + 5) (zmc 9) (zmc 9).1 (zpad (zml 9) [(18, 118, 0)]) [] (f, w, c, s, 119, g) = some ((9, 0, 0), (zups (zLW 118) f, w, c + 94, s + 1667, 213, zupsB (zLI 118) g)) := rfl
set_option maxRecDepth 100000 in
set_option maxHeartbeats 40000000 in
theorem zW_213 (q : Int × (Int → Int)) (d : Nat) (f : Int → Int → Int) (w : Int → Int) (c s : Nat) (g : Int → Int → Bool) : zX (false, q) 4000 (d + 5) (zmc 9) (zmc 9).1 (zpad (zml 9) [(18, 213, 0)]) [] (f, w, c, s, 214, g) = some ((9, 0, 0), (zups (zLW 213) f, w, c + 94, s + 1667, 308, zupsB (zLI 213) g)) := rfl
set_option maxRecDepth 100000 in
set_option maxHeartbeats 40000000 in
theorem zW_324 (q : Int × (Int → Int)) (d : Nat) (f : Int → Int → Int) (w : Int → Int) (c s : Nat) (g : Int → Int → Bool) : zX (false, q) 4000 (d + 5) (zmc 9) (zmc 9).1 (zpad (zml 9) [(18, 324, 0)]) [] (f, w, c, s, 325, g) = some ((9, 0, 0), (zups (zLW 324) f, w, c + 94, s + 1667, 419, zupsB (zLI 324) g)) := rfl
set_option maxRecDepth 100000 in
set_option maxHeartbeats 40000000 in
theorem zW_419 (q : Int × (Int → Int)) (d : Nat) (f : Int → Int → Int) (w : Int → Int) (c s : Nat) (g : Int → Int → Bool) : zX (false, q) 4000 (d + 5) (zmc 9) (zmc 9).1 (zpad (zml 9) [(18, 419, 0)]) [] (f, w, c, s, 420, g) = some ((9, 0, 0), (zups (zLW 419) f, w, c + 94, s + 1667, 514, zupsB (zLI 419) g)) := rfl
