/-! ## the other form's -/
def zC_mod_L : List (Int × Int × Int) := [(1465, 9, 1), (1465, 1, -1), (1464, 12, -1)]
def zC_mod_I : List (Int × Int) := [(1464, 26), (1464, 25), (1464, 24), (1464, 23), (1464, 22), (1464, 21), (1464, 20), (1464, 14), (1464, 7), (1464, 5), (1464, 4), (1464, 2), (1464, 1)]
set_option maxRecDepth 100000 in
theorem zC_mod (q : Int × (Int → Int)) (d : Nat) (f : Int → Int → Int) (w : Int → Int) (c s : Nat) (g : Int → Int → Bool) : zX (false, q) 400 (d + 5) (zmc 14) (zmc 14).1 (zpad (zml 14) [(20, 1464, 0)]) [] (f, w, c, s, 1465, g) = some ((9, 0, 0), (zups zC_mod_L f, w, c + 13, s + 21111, 1478, zupsB zC_mod_I g)) := rfl
