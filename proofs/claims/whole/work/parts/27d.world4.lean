set_option maxRecDepth 100000 in
set_option maxHeartbeats 40000000 in
theorem zW_989 (q : Int × (Int → Int)) (d : Nat) (f : Int → Int → Int) (w : Int → Int) (c s : Nat) (g : Int → Int → Bool) : zX (false, q) 4000 (d + 5) (zmc 9) (zmc 9).1 (zpad (zml 9) [(18, 989, 0)]) [] (f, w, c, s, 990, g) = some ((9, 0, 0), (zups (zLW 989) f, w, c + 94, s + 1667, 1084, zupsB (zLI 989) g)) := rfl
set_option maxRecDepth 100000 in
set_option maxHeartbeats 40000000 in
theorem zW_1084 (q : Int × (Int → Int)) (d : Nat) (f : Int → Int → Int) (w : Int → Int) (c s : Nat) (g : Int → Int → Bool) : zX (false, q) 4000 (d + 5) (zmc 9) (zmc 9).1 (zpad (zml 9) [(18, 1084, 0)]) [] (f, w, c, s, 1085, g) = some ((9, 0, 0), (zups (zLW 1084) f, w, c + 94, s + 1667, 1179, zupsB (zLI 1084) g)) := rfl
set_option maxRecDepth 100000 in
set_option maxHeartbeats 40000000 in
theorem zW_1179 (q : Int × (Int → Int)) (d : Nat) (f : Int → Int → Int) (w : Int → Int) (c s : Nat) (g : Int → Int → Bool) : zX (false, q) 4000 (d + 5) (zmc 9) (zmc 9).1 (zpad (zml 9) [(18, 1179, 0)]) [] (f, w, c, s, 1180, g) = some ((9, 0, 0), (zups (zLW 1179) f, w, c + 94, s + 1667, 1274, zupsB (zLI 1179) g)) := rfl
set_option maxRecDepth 100000 in
set_option maxHeartbeats 40000000 in
theorem zW_1274 (q : Int × (Int → Int)) (d : Nat) (f : Int → Int → Int) (w : Int → Int) (c s : Nat) (g : Int → Int → Bool) : zX (false, q) 4000 (d + 5) (zmc 9) (zmc 9).1 (zpad (zml 9) [(18, 1274, 0)]) [] (f, w, c, s, 1275, g) = some ((9, 0, 0), (zups (zLW 1274) f, w, c + 94, s + 1667, 1369, zupsB (zLI 1274) g)) := rfl
set_option maxRecDepth 100000 in
set_option maxHeartbeats 40000000 in
theorem zW_1369 (q : Int × (Int → Int)) (d : Nat) (f : Int → Int → Int) (w : Int → Int) (c s : Nat) (g : Int → Int → Bool) : zX (false, q) 4000 (d + 5) (zmc 9) (zmc 9).1 (zpad (zml 9) [(18, 1369, 0)]) [] (f, w, c, s, 1370, g) = some ((9, 0, 0), (zups (zLW 1369) f, w, c + 94, s + 1667, 1464, zupsB (zLI 1369) g)) := rfl
