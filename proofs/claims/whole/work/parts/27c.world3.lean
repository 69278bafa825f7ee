set_option maxRecDepth 100000 in
set_option maxHeartbeats 40000000 in
theorem zW_514 (q : Int × (Int → Int)) (d : Nat) (f : Int → Int → Int) (w : Int → Int) (c s : Nat) (g : Int → Int → Bool) : zX (false, q) 4000 (d + 5) (zmc 9) (zmc 9).1 (zpad (zml 9) [(18, 514, 0)]) [] (f, w, c, s, 515, g) = some ((9, 0, 0), (zups (zLW 514) f, w, c + 94, s + 1667, 609, zupsB (zLI 514) g)) := rfl
set_option maxRecDepth 100000 in
set_option maxHeartbeats 40000000 in
theorem zW_609 (q : Int × (Int → Int)) (d : Nat) (f : Int → Int → Int) (w : Int → Int) (c s : Nat) (g : Int → Int → Bool) : zX (false, q) 4000 (d + 5) (zmc 9) (zmc 9).1 (zpad (zml 9) [(18, 609, 0)]) [] (f, w, c, s, 610, g) = some ((9, 0, 0), (zups (zLW 609) f, w, c + 94, s + 1667, 704, zupsB (zLI 609) g)) := rfl
set_option maxRecDepth 100000 in
set_option maxHeartbeats 40000000 in
theorem zW_704 (q : Int × (Int → Int)) (d : Nat) (f : Int → Int → Int) (w : Int → Int) (c s : Nat) (g : Int → Int → Bool) : zX (false, q) 4000 (d + 5) (zmc 9) (zmc 9).1 (zpad (zml 9) [(18, 704, 0)]) [] (f, w, c, s, 705, g) = some ((9, 0, 0), (zups (zLW 704) f, w, c + 94, s + 1667, 799, zupsB (zLI 704) g)) := rfl
set_option maxRecDepth 100000 in
set_option maxHeartbeats 40000000 in
theorem zW_799 (q : Int × (Int → Int)) (d : Nat) (f : Int → Int → Int) (w : Int → Int) (c s : Nat) (g : Int → Int → Bool) : zX (false, q) 4000 (d + 5) (zmc 9) (zmc 9).1 (zpad (zml 9) [(18, 799, 0)]) [] (f, w, c, s, 800, g) = some ((9, 0, 0), (zups (zLW 799) f, w, c + 94, s + 1667, 894, zupsB (zLI 799) g)) := rfl
set_option maxRecDepth 100000 in
set_option maxHeartbeats 40000000 in
theorem zW_894 (q : Int × (Int → Int)) (d : Nat) (f : Int → Int → Int) (w : Int → Int) (c s : Nat) (g : Int → Int → Bool) : zX (false, q) 4000 (d + 5) (zmc 9) (zmc 9).1 (zpad (zml 9) [(18, 894, 0)]) [] (f, w, c, s, 895, g) = some ((9, 0, 0), (zups (zLW 894) f, w, c + 94, s + 1667, 989, zupsB (zLI 894) g)) := rfl
