/-! ## where the loop begins -/
def zBeg1 : zS := (zXF21, fun _ => -1, 1464, 28635, 1464, zXG22)
def zBeg2 : zS := (zups zC_mod_L zXF21, fun _ => -1, 1478, 49773, 1478, zupsB zC_mod_I zXG22)
def zBeg3 : zS := (zups zC_mod_L zXF21, fun _ => -1, 1479, 49774, 1479, zupsB zC_mod_I zXG22)
set_option maxRecDepth 100000 in
theorem zrunX (q : Int × (Int → Int)) : zD (false, q) 12 zc_X_init zc_X_init.1 (zpad (zml 13) [(19, 0, 0)]) [] (zsN zs0 17) = some ((9, 0, 0), zBeg1) :=
  (zXt0 q 6 _).trans ((zXt1 q 6 _).trans ((zXt2 q 6 _).trans ((zXt3 q 6 _).trans ((zXt4 q 6 _).trans ((zXt5 q 6 _).trans ((zXt6 q 6 _).trans ((zXt7 q 6 _).trans ((zXt8 q 6 _).trans ((zXt9 q 6 _).trans ((zXt10 q 6 _).trans ((zXt11 q 6 _).trans ((zXt12 q 6 _).trans ((zXt13 q 6 _).trans ((zXt14 q 6 _).trans ((zXt15 q 6 _).trans ((zXt16 q 6 _).trans ((zXt17 q 6 _).trans ((zXt18 q 6 _).trans ((zXt19 q 6 _).trans ((zXt20 q 6 _).trans (zXt21 q 6 _)))))))))))))))))))))
set_option maxRecDepth 100000 in
theorem zrunM (q : Int × (Int → Int)) : zX (false, q) 400 12 (zmc 14) (zmc 14).1 (zpad (zml 14) [(20, 1464, 0)]) [] (zsN zBeg1 27) = some ((9, 0, 0), zBeg2) := zC_mod q 7 _ _ _ _ _
def zGI : List (Int × Int) := zC_mod_I ++ zXI22
theorem zGI_set : zsetB zGI zBeg3.2.2.2.2.2 := zsetB_step zXi22
