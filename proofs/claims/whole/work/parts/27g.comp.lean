/-! ## put together -/
theorem zupB_same {g : Int → Int → Bool} {a k : Int} (h : g a k = true) : zupB g a k = g := by
  funext b j
  unfold zupB
  split
  · rename_i hb
    rw [hb.1, hb.2, h]
  · rfl
def zsetB (l : List (Int × Int)) (g : Int → Int → Bool) : Prop := ∀ e ∈ l, g e.1 e.2 = true
theorem zupB_mono {g : Int → Int → Bool} {a k b j : Int} (h : g b j = true) : zupB g a k b j = true := by
  unfold zupB
  split
  · rfl
  · exact h
theorem zupB_hit {g : Int → Int → Bool} {a k : Int} : zupB g a k a k = true := if_pos ⟨rfl, rfl⟩
theorem zupsB_mono {b j : Int} : ∀ (l : List (Int × Int)) {g : Int → Int → Bool}, g b j = true → zupsB l g b j = true := by
  intro l
  induction l with
  | nil => intro g h; exact h
  | cons e l ih => intro g h; exact zupB_mono (ih h)
theorem zupsB_hit : ∀ (l : List (Int × Int)) {g : Int → Int → Bool}, zsetB l (zupsB l g) := by
  intro l
  induction l with
  | nil => intro g e he; cases he
  | cons x l ih =>
    intro g e he
    rcases List.mem_cons.mp he with rfl | he
    · exact zupB_hit
    · exact zupB_mono (ih e he)
theorem zsetB_step {l l2 : List (Int × Int)} {g : Int → Int → Bool} (h : zsetB l g) : zsetB (l2 ++ l) (zupsB l2 g) := by
  intro e he
  rcases List.mem_append.mp he with he | he
  · exact zupsB_hit l2 e he
  · exact zupsB_mono l2 (h e he)
theorem zset_zupB {l : List (Int × Int)} {g : Int → Int → Bool} {a k : Int} (h : zsetB l g) : zsetB l (zupB g a k) := fun e he => zupB_mono (h e he)
def zlook : List (Int × Int × Int) → Int → Int → Int
  | [], _, _ => 0
  | e :: l, a, k => if a = e.1 ∧ k = e.2.1 then e.2.2 else zlook l a k
theorem zups_look : ∀ (l : List (Int × Int × Int)) (a k : Int), zups l (fun _ _ => 0) a k = zlook l a k := by
  intro l
  induction l with
  | nil => intro a k; rfl
  | cons e l ih =>
    intro a k
    show (if a = e.1 ∧ k = e.2.1 then e.2.2 else zups l (fun _ _ => 0) a k) = if a = e.1 ∧ k = e.2.1 then e.2.2 else zlook l a k
    rw [ih]
theorem zups_app : ∀ (l l2 : List (Int × Int × Int)) (f : Int → Int → Int), zups (l ++ l2) f = zups l (zups l2 f) := by
  intro l
  induction l with
  | nil => intro l2 f; rfl
  | cons e l ih =>
    intro l2 f
    show zup (zups (l ++ l2) f) e.1 e.2.1 e.2.2 = zup (zups l (zups l2 f)) e.1 e.2.1 e.2.2
    rw [ih]
def zXF0 : Int → Int → Int := fun _ _ => 0
def zXG0 : Int → Int → Bool := fun _ _ => false
def zXL0 : List (Int × Int × Int) := []
def zXI0 : List (Int × Int) := []
theorem zXe0 : zXF0 = zups zXL0 (fun _ _ => 0) := rfl
theorem zXi0 : zsetB zXI0 zXG0 := fun e he => by cases he
def zXF1 : Int → Int → Int := zups zC_law2_L zXF0
def zXG1 : Int → Int → Bool := zupsB zC_law2_I (zupsB [(0, 0)] zXG0)
def zXL1 : List (Int × Int × Int) := zC_law2_L ++ ([] ++ zXL0)
def zXI1 : List (Int × Int) := zC_law2_I ++ ([(0, 0)] ++ zXI0)
theorem zXe1 : zXF1 = zups zXL1 (fun _ _ => 0) := by
  unfold zXF1 zXL1
  rw [zups_app, zups_app, ← zXe0]
  try rfl
theorem zXi1 : zsetB zXI1 zXG1 := zsetB_step (zsetB_step zXi0)
theorem zXt0 (q : Int × (Int → Int)) (d : Nat) (w : Int → Int) : zD (false, q) (d + 6) zc_X_init (zat zc_X_init 0) [(19, 0, 0), (2, 0, 0)] [] (zXF0, w, 1, 17, 1, zXG0) = zD (false, q) (d + 6) zc_X_init (zat zc_X_init 10) [(19, 0, 0), (2, 0, 0)] [(12, 2, 0), (19, 0, 0)] (zXF1, w, 9, 937, 9, zXG1) := by
  have h := zXs_0 q d zXF0 w 1 17 zXG0
  have h2 : zM (false, q) (d + 5) 1 [(12, 2, 0)] (zXF0, w, 3, 425, 3, (zupsB [(0, 0)] zXG0)) = some ((9, 0, 0), (zXF1, w, 9, 937, 9, zXG1)) := zD_iff.mpr ⟨400, zC_law2 q d _ w 3 425 _⟩
  rw [h, h2, zK_v]
def zXF2 : Int → Int → Int := zups zC_law9_L zXF1
def zXG2 : Int → Int → Bool := zupsB zC_law9_I (zupsB [(0, 1)] zXG1)
def zXL2 : List (Int × Int × Int) := zC_law9_L ++ ([] ++ zXL1)
def zXI2 : List (Int × Int) := zC_law9_I ++ ([(0, 1)] ++ zXI1)
theorem zXe2 : zXF2 = zups zXL2 (fun _ _ => 0) := by
  unfold zXF2 zXL2
  rw [zups_app, zups_app, ← zXe1]
  try rfl
theorem zXi2 : zsetB zXI2 zXG2 := zsetB_step (zsetB_step zXi1)
theorem zXt1 (q : Int × (Int → Int)) (d : Nat) (w : Int → Int) : zD (false, q) (d + 6) zc_X_init (zat zc_X_init 10) [(19, 0, 0), (2, 0, 0)] [(12, 2, 0), (19, 0, 0)] (zXF1, w, 9, 937, 9, zXG1) = zD (false, q) (d + 6) zc_X_init (zat zc_X_init 15) [(19, 0, 0), (2, 0, 0)] [(12, 9, 0), (19, 0, 0)] (zXF2, w, 16, 1457, 16, zXG2) := by
  have h := zXs_1 q d zXF1 w 9 937 zXG1
  have h2 : zM (false, q) (d + 5) 1 [(12, 9, 0)] (zXF1, w, 10, 945, 10, (zupsB [(0, 1)] zXG1)) = some ((9, 0, 0), (zXF2, w, 16, 1457, 16, zXG2)) := zD_iff.mpr ⟨400, zC_law9 q d _ w 10 945 _⟩
  rw [h, h2, zK_v]
def zXF3 : Int → Int → Int := zups zC_law16_L zXF2
def zXG3 : Int → Int → Bool := zupsB zC_law16_I (zupsB [(0, 2)] zXG2)
def zXL3 : List (Int × Int × Int) := zC_law16_L ++ ([] ++ zXL2)
def zXI3 : List (Int × Int) := zC_law16_I ++ ([(0, 2)] ++ zXI2)
theorem zXe3 : zXF3 = zups zXL3 (fun _ _ => 0) := by
  unfold zXF3 zXL3
  rw [zups_app, zups_app, ← zXe2]
  try rfl
theorem zXi3 : zsetB zXI3 zXG3 := zsetB_step (zsetB_step zXi2)
theorem zXt2 (q : Int × (Int → Int)) (d : Nat) (w : Int → Int) : zD (false, q) (d + 6) zc_X_init (zat zc_X_init 15) [(19, 0, 0), (2, 0, 0)] [(12, 9, 0), (19, 0, 0)] (zXF2, w, 16, 1457, 16, zXG2) = zD (false, q) (d + 6) zc_X_init (zat zc_X_init 20) [(19, 0, 0), (2, 0, 0)] [(12, 16, 0), (19, 0, 0)] (zXF3, w, 23, 1977, 23, zXG3) := by
  have h := zXs_2 q d zXF2 w 16 1457 zXG2
  have h2 : zM (false, q) (d + 5) 1 [(12, 16, 0)] (zXF2, w, 17, 1465, 17, (zupsB [(0, 2)] zXG2)) = some ((9, 0, 0), (zXF3, w, 23, 1977, 23, zXG3)) := zD_iff.mpr ⟨400, zC_law16 q d _ w 17 1465 _⟩
  rw [h, h2, zK_v]
def zXF4 : Int → Int → Int := zups (zLW 23) zXF3
def zXG4 : Int → Int → Bool := zupsB (zLI 23) (zupsB [(0, 3)] zXG3)
def zXL4 : List (Int × Int × Int) := (zLW 23) ++ ([] ++ zXL3)
def zXI4 : List (Int × Int) := (zLI 23) ++ ([(0, 3)] ++ zXI3)
theorem zXe4 : zXF4 = zups zXL4 (fun _ _ => 0) := by
  unfold zXF4 zXL4
  rw [zups_app, zups_app, ← zXe3]
  try rfl
theorem zXi4 : zsetB zXI4 zXG4 := zsetB_step (zsetB_step zXi3)
theorem zXt3 (q : Int × (Int → Int)) (d : Nat) (w : Int → Int) : zD (false, q) (d + 6) zc_X_init (zat zc_X_init 20) [(19, 0, 0), (2, 0, 0)] [(12, 16, 0), (19, 0, 0)] (zXF3, w, 23, 1977, 23, zXG3) = zD (false, q) (d + 6) zc_X_init (zat zc_X_init 25) [(19, 0, 0), (2, 0, 0)] [(18, 23, 0), (19, 0, 0)] (zXF4, w, 118, 3655, 118, zXG4) := by
  have h := zXs_3 q d zXF3 w 23 1977 zXG3
  have h2 : zM (false, q) (d + 5) 9 [(18, 23, 0)] (zXF3, w, 24, 1988, 24, (zupsB [(0, 3)] zXG3)) = some ((9, 0, 0), (zXF4, w, 118, 3655, 118, zXG4)) := zD_iff.mpr ⟨4000, zW_23 q d _ w 24 1988 _⟩
  rw [h, h2, zK_v]
def zXF5 : Int → Int → Int := zups (zLW 118) zXF4
def zXG5 : Int → Int → Bool := zupsB (zLI 118) (zupsB [(0, 4)] zXG4)
def zXL5 : List (Int × Int × Int) := (zLW 118) ++ ([] ++ zXL4)
def zXI5 : List (Int × Int) := (zLI 118) ++ ([(0, 4)] ++ zXI4)
theorem zXe5 : zXF5 = zups zXL5 (fun _ _ => 0) := by
  unfold zXF5 zXL5
  rw [zups_app, zups_app, ← zXe4]
  try rfl
theorem zXi5 : zsetB zXI5 zXG5 := zsetB_step (zsetB_step zXi4)
theorem zXt4 (q : Int × (Int → Int)) (d : Nat) (w : Int → Int) : zD (false, q) (d + 6) zc_X_init (zat zc_X_init 25) [(19, 0, 0), (2, 0, 0)] [(18, 23, 0), (19, 0, 0)] (zXF4, w, 118, 3655, 118, zXG4) = zD (false, q) (d + 6) zc_X_init (zat zc_X_init 30) [(19, 0, 0), (2, 0, 0)] [(18, 118, 0), (19, 0, 0)] (zXF5, w, 213, 5333, 213, zXG5) := by
  have h := zXs_4 q d zXF4 w 118 3655 zXG4
  have h2 : zM (false, q) (d + 5) 9 [(18, 118, 0)] (zXF4, w, 119, 3666, 119, (zupsB [(0, 4)] zXG4)) = some ((9, 0, 0), (zXF5, w, 213, 5333, 213, zXG5)) := zD_iff.mpr ⟨4000, zW_118 q d _ w 119 3666 _⟩
  rw [h, h2, zK_v]
def zXF6 : Int → Int → Int := zups (zLW 213) zXF5
def zXG6 : Int → Int → Bool := zupsB (zLI 213) (zupsB [(0, 5)] zXG5)
def zXL6 : List (Int × Int × Int) := (zLW 213) ++ ([] ++ zXL5)
def zXI6 : List (Int × Int) := (zLI 213) ++ ([(0, 5)] ++ zXI5)
theorem zXe6 : zXF6 = zups zXL6 (fun _ _ => 0) := by
  unfold zXF6 zXL6
  rw [zups_app, zups_app, ← zXe5]
  try rfl
theorem zXi6 : zsetB zXI6 zXG6 := zsetB_step (zsetB_step zXi5)
theorem zXt5 (q : Int × (Int → Int)) (d : Nat) (w : Int → Int) : zD (false, q) (d + 6) zc_X_init (zat zc_X_init 30) [(19, 0, 0), (2, 0, 0)] [(18, 118, 0), (19, 0, 0)] (zXF5, w, 213, 5333, 213, zXG5) = zD (false, q) (d + 6) zc_X_init (zat zc_X_init 35) [(19, 0, 0), (2, 0, 0)] [(18, 213, 0), (19, 0, 0)] (zXF6, w, 308, 7011, 308, zXG6) := by
  have h := zXs_5 q d zXF5 w 213 5333 zXG5
  have h2 : zM (false, q) (d + 5) 9 [(18, 213, 0)] (zXF5, w, 214, 5344, 214, (zupsB [(0, 5)] zXG5)) = some ((9, 0, 0), (zXF6, w, 308, 7011, 308, zXG6)) := zD_iff.mpr ⟨4000, zW_213 q d _ w 214 5344 _⟩
  rw [h, h2, zK_v]
def zXF7 : Int → Int → Int := zups zC_text_L zXF6
def zXG7 : Int → Int → Bool := zupsB zC_text_I (zupsB [(0, 7), (0, 6)] zXG6)
def zXL7 : List (Int × Int × Int) := zC_text_L ++ ([] ++ zXL6)
def zXI7 : List (Int × Int) := zC_text_I ++ ([(0, 7), (0, 6)] ++ zXI6)
theorem zXe7 : zXF7 = zups zXL7 (fun _ _ => 0) := by
  unfold zXF7 zXL7
  rw [zups_app, zups_app, ← zXe6]
  try rfl
theorem zXi7 : zsetB zXI7 zXG7 := zsetB_step (zsetB_step zXi6)
theorem zXt6 (q : Int × (Int → Int)) (d : Nat) (w : Int → Int) : zD (false, q) (d + 6) zc_X_init (zat zc_X_init 35) [(19, 0, 0), (2, 0, 0)] [(18, 213, 0), (19, 0, 0)] (zXF6, w, 308, 7011, 308, zXG6) = zD (false, q) (d + 6) zc_X_init (zat zc_X_init 44) [(19, 0, 0), (2, 0, 0)] [(15, 309, 0), (19, 0, 0)] (zXF7, w, 313, 8232, 313, zXG7) := by
  have h := zXs_6 q d zXF6 w 308 7011 zXG6
  have h2 : zM (false, q) (d + 5) 10 [(15, 309, 0)] (zXF6, w, 310, 7029, 310, (zupsB [(0, 7), (0, 6)] zXG6)) = some ((9, 0, 0), (zXF7, w, 313, 8232, 313, zXG7)) := zD_iff.mpr ⟨400, zC_text q d _ w 310 7029 _⟩
  rw [h, h2, zK_v]
def zXF8 : Int → Int → Int := zups zC_per_L zXF7
def zXG8 : Int → Int → Bool := zupsB zC_per_I (zupsB [(0, 8)] zXG7)
def zXL8 : List (Int × Int × Int) := zC_per_L ++ ([] ++ zXL7)
def zXI8 : List (Int × Int) := zC_per_I ++ ([(0, 8)] ++ zXI7)
theorem zXe8 : zXF8 = zups zXL8 (fun _ _ => 0) := by
  unfold zXF8 zXL8
  rw [zups_app, zups_app, ← zXe7]
  try rfl
theorem zXi8 : zsetB zXI8 zXG8 := zsetB_step (zsetB_step zXi7)
theorem zXt7 (q : Int × (Int → Int)) (d : Nat) (w : Int → Int) : zD (false, q) (d + 6) zc_X_init (zat zc_X_init 44) [(19, 0, 0), (2, 0, 0)] [(15, 309, 0), (19, 0, 0)] (zXF7, w, 313, 8232, 313, zXG7) = zD (false, q) (d + 6) zc_X_init (zat zc_X_init 49) [(19, 0, 0), (2, 0, 0)] [(14, 313, 0), (19, 0, 0)] (zXF8, w, 317, 8460, 317, zXG8) := by
  have h := zXs_7 q d zXF7 w 313 8232 zXG7
  have h2 : zM (false, q) (d + 5) 11 [(14, 313, 0)] (zXF7, w, 314, 8236, 314, (zupsB [(0, 8)] zXG7)) = some ((9, 0, 0), (zXF8, w, 317, 8460, 317, zXG8)) := zD_iff.mpr ⟨400, zC_per q d _ w 314 8236 _⟩
  rw [h, h2, zK_v]
theorem zXh8 : zXG8 0 7 = true := zXi8 (0, 7) (by decide +kernel)
def zXF9 : Int → Int → Int := zups zC_ways_L zXF8
def zXG9 : Int → Int → Bool := zupsB zC_ways_I (zupsB [(0, 9)] zXG8)
def zXL9 : List (Int × Int × Int) := zC_ways_L ++ ([] ++ zXL8)
def zXI9 : List (Int × Int) := zC_ways_I ++ ([(0, 9)] ++ zXI8)
theorem zXe9 : zXF9 = zups zXL9 (fun _ _ => 0) := by
  unfold zXF9 zXL9
  rw [zups_app, zups_app, ← zXe8]
  try rfl
theorem zXi9 : zsetB zXI9 zXG9 := zsetB_step (zsetB_step zXi8)
theorem zXt8 (q : Int × (Int → Int)) (d : Nat) (w : Int → Int) : zD (false, q) (d + 6) zc_X_init (zat zc_X_init 49) [(19, 0, 0), (2, 0, 0)] [(14, 313, 0), (19, 0, 0)] (zXF8, w, 317, 8460, 317, zXG8) = zD (false, q) (d + 6) zc_X_init (zat zc_X_init 54) [(19, 0, 0), (2, 0, 0)] [(17, 317, 0), (19, 0, 0)] (zXF9, w, 323, 8495, 323, zXG9) := by
  have h := zXs_8 q d zXF8 w 317 8460 zXG8
  rw [zupB_same zXh8] at h
  have h2 : zM (false, q) (d + 5) 12 [(17, 317, 0)] (zXF8, w, 318, 8467, 318, (zupsB [(0, 9)] zXG8)) = some ((9, 0, 0), (zXF9, w, 323, 8495, 323, zXG9)) := zD_iff.mpr ⟨400, zC_ways q d _ w 318 8467 _⟩
  rw [h, h2, zK_v]
theorem zXh9 : zXG9 0 7 = true := zXi9 (0, 7) (by decide +kernel)
def zXF10 : Int → Int → Int := zups (zLW 324) (zups [(0, 13, -1)] zXF9)
def zXG10 : Int → Int → Bool := zupsB (zLI 324) (zupsB [(0, 11), (0, 10)] zXG9)
def zXL10 : List (Int × Int × Int) := (zLW 324) ++ ([(0, 13, -1)] ++ zXL9)
def zXI10 : List (Int × Int) := (zLI 324) ++ ([(0, 11), (0, 10)] ++ zXI9)
theorem zXe10 : zXF10 = zups zXL10 (fun _ _ => 0) := by
  unfold zXF10 zXL10
  rw [zups_app, zups_app, ← zXe9]
  try rfl
theorem zXi10 : zsetB zXI10 zXG10 := zsetB_step (zsetB_step zXi9)
theorem zXt9 (q : Int × (Int → Int)) (d : Nat) (w : Int → Int) : zD (false, q) (d + 6) zc_X_init (zat zc_X_init 54) [(19, 0, 0), (2, 0, 0)] [(17, 317, 0), (19, 0, 0)] (zXF9, w, 323, 8495, 323, zXG9) = zD (false, q) (d + 6) zc_X_init (zat zc_X_init 75) [(19, 0, 0), (0, 0, 0)] [(18, 324, 0), (0, 0, 0), (33, 308, 12)] (zXF10, w, 419, 10177, 419, zXG10) := by
  have h := zXs_9 q d zXF9 w 323 8495 zXG9
  rw [zupB_same zXh9] at h
  have h2 : zM (false, q) (d + 5) 9 [(18, 324, 0)] ((zups [(0, 13, -1)] zXF9), w, 325, 8510, 325, (zupsB [(0, 11), (0, 10)] zXG9)) = some ((9, 0, 0), (zXF10, w, 419, 10177, 419, zXG10)) := zD_iff.mpr ⟨4000, zW_324 q d _ w 325 8510 _⟩
  rw [h, h2, zK_v]
theorem zXh10 : zXG10 0 7 = true := zXi10 (0, 7) (by decide +kernel)
def zXF11 : Int → Int → Int := zups (zLW 419) zXF10
def zXG11 : Int → Int → Bool := zupsB (zLI 419) (zupsB [(308, 0)] zXG10)
def zXL11 : List (Int × Int × Int) := (zLW 419) ++ ([] ++ zXL10)
def zXI11 : List (Int × Int) := (zLI 419) ++ ([(308, 0)] ++ zXI10)
theorem zXe11 : zXF11 = zups zXL11 (fun _ _ => 0) := by
  unfold zXF11 zXL11
  rw [zups_app, zups_app, ← zXe10]
  try rfl
theorem zXi11 : zsetB zXI11 zXG11 := zsetB_step (zsetB_step zXi10)
theorem zXt10 (q : Int × (Int → Int)) (d : Nat) (w : Int → Int) : zD (false, q) (d + 6) zc_X_init (zat zc_X_init 75) [(19, 0, 0), (0, 0, 0)] [(18, 324, 0), (0, 0, 0), (33, 308, 12)] (zXF10, w, 419, 10177, 419, zXG10) = zD (false, q) (d + 6) zc_X_init (zat zc_X_init 75) [(19, 0, 0), (0, 1, 0)] [(18, 419, 0), (0, 1, 0), (33, 308, 12)] (zXF11, w, 514, 11855, 514, zXG11) := by
  have h := zXs_10 q d zXF10 w 419 10177 zXG10
  rw [zupB_same zXh10] at h
  have h2 : zM (false, q) (d + 5) 9 [(18, 419, 0)] (zXF10, w, 420, 10188, 420, (zupsB [(308, 0)] zXG10)) = some ((9, 0, 0), (zXF11, w, 514, 11855, 514, zXG11)) := zD_iff.mpr ⟨4000, zW_419 q d _ w 420 10188 _⟩
  rw [h, h2, zK_v]
theorem zXh11 : zXG11 0 7 = true := zXi11 (0, 7) (by decide +kernel)
def zXF12 : Int → Int → Int := zups (zLW 514) zXF11
def zXG12 : Int → Int → Bool := zupsB (zLI 514) (zupsB [(308, 1)] zXG11)
def zXL12 : List (Int × Int × Int) := (zLW 514) ++ ([] ++ zXL11)
def zXI12 : List (Int × Int) := (zLI 514) ++ ([(308, 1)] ++ zXI11)
theorem zXe12 : zXF12 = zups zXL12 (fun _ _ => 0) := by
  unfold zXF12 zXL12
  rw [zups_app, zups_app, ← zXe11]
  try rfl
theorem zXi12 : zsetB zXI12 zXG12 := zsetB_step (zsetB_step zXi11)
theorem zXt11 (q : Int × (Int → Int)) (d : Nat) (w : Int → Int) : zD (false, q) (d + 6) zc_X_init (zat zc_X_init 75) [(19, 0, 0), (0, 1, 0)] [(18, 419, 0), (0, 1, 0), (33, 308, 12)] (zXF11, w, 514, 11855, 514, zXG11) = zD (false, q) (d + 6) zc_X_init (zat zc_X_init 75) [(19, 0, 0), (0, 2, 0)] [(18, 514, 0), (0, 2, 0), (33, 308, 12)] (zXF12, w, 609, 13533, 609, zXG12) := by
  have h := zXs_11 q d zXF11 w 514 11855 zXG11
  rw [zupB_same zXh11] at h
  have h2 : zM (false, q) (d + 5) 9 [(18, 514, 0)] (zXF11, w, 515, 11866, 515, (zupsB [(308, 1)] zXG11)) = some ((9, 0, 0), (zXF12, w, 609, 13533, 609, zXG12)) := zD_iff.mpr ⟨4000, zW_514 q d _ w 515 11866 _⟩
  rw [h, h2, zK_v]
theorem zXh12 : zXG12 0 7 = true := zXi12 (0, 7) (by decide +kernel)
def zXF13 : Int → Int → Int := zups (zLW 609) zXF12
def zXG13 : Int → Int → Bool := zupsB (zLI 609) (zupsB [(308, 2)] zXG12)
def zXL13 : List (Int × Int × Int) := (zLW 609) ++ ([] ++ zXL12)
def zXI13 : List (Int × Int) := (zLI 609) ++ ([(308, 2)] ++ zXI12)
theorem zXe13 : zXF13 = zups zXL13 (fun _ _ => 0) := by
  unfold zXF13 zXL13
  rw [zups_app, zups_app, ← zXe12]
  try rfl
theorem zXi13 : zsetB zXI13 zXG13 := zsetB_step (zsetB_step zXi12)
theorem zXt12 (q : Int × (Int → Int)) (d : Nat) (w : Int → Int) : zD (false, q) (d + 6) zc_X_init (zat zc_X_init 75) [(19, 0, 0), (0, 2, 0)] [(18, 514, 0), (0, 2, 0), (33, 308, 12)] (zXF12, w, 609, 13533, 609, zXG12) = zD (false, q) (d + 6) zc_X_init (zat zc_X_init 75) [(19, 0, 0), (0, 3, 0)] [(18, 609, 0), (0, 3, 0), (33, 308, 12)] (zXF13, w, 704, 15211, 704, zXG13) := by
  have h := zXs_12 q d zXF12 w 609 13533 zXG12
  rw [zupB_same zXh12] at h
  have h2 : zM (false, q) (d + 5) 9 [(18, 609, 0)] (zXF12, w, 610, 13544, 610, (zupsB [(308, 2)] zXG12)) = some ((9, 0, 0), (zXF13, w, 704, 15211, 704, zXG13)) := zD_iff.mpr ⟨4000, zW_609 q d _ w 610 13544 _⟩
  rw [h, h2, zK_v]
theorem zXh13 : zXG13 0 7 = true := zXi13 (0, 7) (by decide +kernel)
def zXF14 : Int → Int → Int := zups (zLW 704) zXF13
def zXG14 : Int → Int → Bool := zupsB (zLI 704) (zupsB [(308, 3)] zXG13)
def zXL14 : List (Int × Int × Int) := (zLW 704) ++ ([] ++ zXL13)
def zXI14 : List (Int × Int) := (zLI 704) ++ ([(308, 3)] ++ zXI13)
theorem zXe14 : zXF14 = zups zXL14 (fun _ _ => 0) := by
  unfold zXF14 zXL14
  rw [zups_app, zups_app, ← zXe13]
  try rfl
theorem zXi14 : zsetB zXI14 zXG14 := zsetB_step (zsetB_step zXi13)
theorem zXt13 (q : Int × (Int → Int)) (d : Nat) (w : Int → Int) : zD (false, q) (d + 6) zc_X_init (zat zc_X_init 75) [(19, 0, 0), (0, 3, 0)] [(18, 609, 0), (0, 3, 0), (33, 308, 12)] (zXF13, w, 704, 15211, 704, zXG13) = zD (false, q) (d + 6) zc_X_init (zat zc_X_init 75) [(19, 0, 0), (0, 4, 0)] [(18, 704, 0), (0, 4, 0), (33, 308, 12)] (zXF14, w, 799, 16889, 799, zXG14) := by
  have h := zXs_13 q d zXF13 w 704 15211 zXG13
  rw [zupB_same zXh13] at h
  have h2 : zM (false, q) (d + 5) 9 [(18, 704, 0)] (zXF13, w, 705, 15222, 705, (zupsB [(308, 3)] zXG13)) = some ((9, 0, 0), (zXF14, w, 799, 16889, 799, zXG14)) := zD_iff.mpr ⟨4000, zW_704 q d _ w 705 15222 _⟩
  rw [h, h2, zK_v]
theorem zXh14 : zXG14 0 7 = true := zXi14 (0, 7) (by decide +kernel)
def zXF15 : Int → Int → Int := zups (zLW 799) zXF14
def zXG15 : Int → Int → Bool := zupsB (zLI 799) (zupsB [(308, 4)] zXG14)
def zXL15 : List (Int × Int × Int) := (zLW 799) ++ ([] ++ zXL14)
def zXI15 : List (Int × Int) := (zLI 799) ++ ([(308, 4)] ++ zXI14)
theorem zXe15 : zXF15 = zups zXL15 (fun _ _ => 0) := by
  unfold zXF15 zXL15
  rw [zups_app, zups_app, ← zXe14]
  try rfl
theorem zXi15 : zsetB zXI15 zXG15 := zsetB_step (zsetB_step zXi14)
theorem zXt14 (q : Int × (Int → Int)) (d : Nat) (w : Int → Int) : zD (false, q) (d + 6) zc_X_init (zat zc_X_init 75) [(19, 0, 0), (0, 4, 0)] [(18, 704, 0), (0, 4, 0), (33, 308, 12)] (zXF14, w, 799, 16889, 799, zXG14) = zD (false, q) (d + 6) zc_X_init (zat zc_X_init 75) [(19, 0, 0), (0, 5, 0)] [(18, 799, 0), (0, 5, 0), (33, 308, 12)] (zXF15, w, 894, 18567, 894, zXG15) := by
  have h := zXs_14 q d zXF14 w 799 16889 zXG14
  rw [zupB_same zXh14] at h
  have h2 : zM (false, q) (d + 5) 9 [(18, 799, 0)] (zXF14, w, 800, 16900, 800, (zupsB [(308, 4)] zXG14)) = some ((9, 0, 0), (zXF15, w, 894, 18567, 894, zXG15)) := zD_iff.mpr ⟨4000, zW_799 q d _ w 800 16900 _⟩
  rw [h, h2, zK_v]
theorem zXh15 : zXG15 0 7 = true := zXi15 (0, 7) (by decide +kernel)
def zXF16 : Int → Int → Int := zups (zLW 894) zXF15
def zXG16 : Int → Int → Bool := zupsB (zLI 894) (zupsB [(308, 5)] zXG15)
def zXL16 : List (Int × Int × Int) := (zLW 894) ++ ([] ++ zXL15)
def zXI16 : List (Int × Int) := (zLI 894) ++ ([(308, 5)] ++ zXI15)
theorem zXe16 : zXF16 = zups zXL16 (fun _ _ => 0) := by
  unfold zXF16 zXL16
  rw [zups_app, zups_app, ← zXe15]
  try rfl
theorem zXi16 : zsetB zXI16 zXG16 := zsetB_step (zsetB_step zXi15)
theorem zXt15 (q : Int × (Int → Int)) (d : Nat) (w : Int → Int) : zD (false, q) (d + 6) zc_X_init (zat zc_X_init 75) [(19, 0, 0), (0, 5, 0)] [(18, 799, 0), (0, 5, 0), (33, 308, 12)] (zXF15, w, 894, 18567, 894, zXG15) = zD (false, q) (d + 6) zc_X_init (zat zc_X_init 75) [(19, 0, 0), (0, 6, 0)] [(18, 894, 0), (0, 6, 0), (33, 308, 12)] (zXF16, w, 989, 20245, 989, zXG16) := by
  have h := zXs_15 q d zXF15 w 894 18567 zXG15
  rw [zupB_same zXh15] at h
  have h2 : zM (false, q) (d + 5) 9 [(18, 894, 0)] (zXF15, w, 895, 18578, 895, (zupsB [(308, 5)] zXG15)) = some ((9, 0, 0), (zXF16, w, 989, 20245, 989, zXG16)) := zD_iff.mpr ⟨4000, zW_894 q d _ w 895 18578 _⟩
  rw [h, h2, zK_v]
theorem zXh16 : zXG16 0 7 = true := zXi16 (0, 7) (by decide +kernel)
def zXF17 : Int → Int → Int := zups (zLW 989) zXF16
def zXG17 : Int → Int → Bool := zupsB (zLI 989) (zupsB [(308, 6)] zXG16)
def zXL17 : List (Int × Int × Int) := (zLW 989) ++ ([] ++ zXL16)
def zXI17 : List (Int × Int) := (zLI 989) ++ ([(308, 6)] ++ zXI16)
theorem zXe17 : zXF17 = zups zXL17 (fun _ _ => 0) := by
  unfold zXF17 zXL17
  rw [zups_app, zups_app, ← zXe16]
  try rfl
theorem zXi17 : zsetB zXI17 zXG17 := zsetB_step (zsetB_step zXi16)
theorem zXt16 (q : Int × (Int → Int)) (d : Nat) (w : Int → Int) : zD (false, q) (d + 6) zc_X_init (zat zc_X_init 75) [(19, 0, 0), (0, 6, 0)] [(18, 894, 0), (0, 6, 0), (33, 308, 12)] (zXF16, w, 989, 20245, 989, zXG16) = zD (false, q) (d + 6) zc_X_init (zat zc_X_init 75) [(19, 0, 0), (0, 7, 0)] [(18, 989, 0), (0, 7, 0), (33, 308, 12)] (zXF17, w, 1084, 21923, 1084, zXG17) := by
  have h := zXs_16 q d zXF16 w 989 20245 zXG16
  rw [zupB_same zXh16] at h
  have h2 : zM (false, q) (d + 5) 9 [(18, 989, 0)] (zXF16, w, 990, 20256, 990, (zupsB [(308, 6)] zXG16)) = some ((9, 0, 0), (zXF17, w, 1084, 21923, 1084, zXG17)) := zD_iff.mpr ⟨4000, zW_989 q d _ w 990 20256 _⟩
  rw [h, h2, zK_v]
theorem zXh17 : zXG17 0 7 = true := zXi17 (0, 7) (by decide +kernel)
def zXF18 : Int → Int → Int := zups (zLW 1084) zXF17
def zXG18 : Int → Int → Bool := zupsB (zLI 1084) (zupsB [(308, 7)] zXG17)
def zXL18 : List (Int × Int × Int) := (zLW 1084) ++ ([] ++ zXL17)
def zXI18 : List (Int × Int) := (zLI 1084) ++ ([(308, 7)] ++ zXI17)
theorem zXe18 : zXF18 = zups zXL18 (fun _ _ => 0) := by
  unfold zXF18 zXL18
  rw [zups_app, zups_app, ← zXe17]
  try rfl
theorem zXi18 : zsetB zXI18 zXG18 := zsetB_step (zsetB_step zXi17)
theorem zXt17 (q : Int × (Int → Int)) (d : Nat) (w : Int → Int) : zD (false, q) (d + 6) zc_X_init (zat zc_X_init 75) [(19, 0, 0), (0, 7, 0)] [(18, 989, 0), (0, 7, 0), (33, 308, 12)] (zXF17, w, 1084, 21923, 1084, zXG17) = zD (false, q) (d + 6) zc_X_init (zat zc_X_init 75) [(19, 0, 0), (0, 8, 0)] [(18, 1084, 0), (0, 8, 0), (33, 308, 12)] (zXF18, w, 1179, 23601, 1179, zXG18) := by
  have h := zXs_17 q d zXF17 w 1084 21923 zXG17
  rw [zupB_same zXh17] at h
  have h2 : zM (false, q) (d + 5) 9 [(18, 1084, 0)] (zXF17, w, 1085, 21934, 1085, (zupsB [(308, 7)] zXG17)) = some ((9, 0, 0), (zXF18, w, 1179, 23601, 1179, zXG18)) := zD_iff.mpr ⟨4000, zW_1084 q d _ w 1085 21934 _⟩
  rw [h, h2, zK_v]
theorem zXh18 : zXG18 0 7 = true := zXi18 (0, 7) (by decide +kernel)
def zXF19 : Int → Int → Int := zups (zLW 1179) zXF18
def zXG19 : Int → Int → Bool := zupsB (zLI 1179) (zupsB [(308, 8)] zXG18)
def zXL19 : List (Int × Int × Int) := (zLW 1179) ++ ([] ++ zXL18)
def zXI19 : List (Int × Int) := (zLI 1179) ++ ([(308, 8)] ++ zXI18)
theorem zXe19 : zXF19 = zups zXL19 (fun _ _ => 0) := by
  unfold zXF19 zXL19
  rw [zups_app, zups_app, ← zXe18]
  try rfl
theorem zXi19 : zsetB zXI19 zXG19 := zsetB_step (zsetB_step zXi18)
theorem zXt18 (q : Int × (Int → Int)) (d : Nat) (w : Int → Int) : zD (false, q) (d + 6) zc_X_init (zat zc_X_init 75) [(19, 0, 0), (0, 8, 0)] [(18, 1084, 0), (0, 8, 0), (33, 308, 12)] (zXF18, w, 1179, 23601, 1179, zXG18) = zD (false, q) (d + 6) zc_X_init (zat zc_X_init 75) [(19, 0, 0), (0, 9, 0)] [(18, 1179, 0), (0, 9, 0), (33, 308, 12)] (zXF19, w, 1274, 25279, 1274, zXG19) := by
  have h := zXs_18 q d zXF18 w 1179 23601 zXG18
  rw [zupB_same zXh18] at h
  have h2 : zM (false, q) (d + 5) 9 [(18, 1179, 0)] (zXF18, w, 1180, 23612, 1180, (zupsB [(308, 8)] zXG18)) = some ((9, 0, 0), (zXF19, w, 1274, 25279, 1274, zXG19)) := zD_iff.mpr ⟨4000, zW_1179 q d _ w 1180 23612 _⟩
  rw [h, h2, zK_v]
theorem zXh19 : zXG19 0 7 = true := zXi19 (0, 7) (by decide +kernel)
def zXF20 : Int → Int → Int := zups (zLW 1274) zXF19
def zXG20 : Int → Int → Bool := zupsB (zLI 1274) (zupsB [(308, 9)] zXG19)
def zXL20 : List (Int × Int × Int) := (zLW 1274) ++ ([] ++ zXL19)
def zXI20 : List (Int × Int) := (zLI 1274) ++ ([(308, 9)] ++ zXI19)
theorem zXe20 : zXF20 = zups zXL20 (fun _ _ => 0) := by
  unfold zXF20 zXL20
  rw [zups_app, zups_app, ← zXe19]
  try rfl
theorem zXi20 : zsetB zXI20 zXG20 := zsetB_step (zsetB_step zXi19)
theorem zXt19 (q : Int × (Int → Int)) (d : Nat) (w : Int → Int) : zD (false, q) (d + 6) zc_X_init (zat zc_X_init 75) [(19, 0, 0), (0, 9, 0)] [(18, 1179, 0), (0, 9, 0), (33, 308, 12)] (zXF19, w, 1274, 25279, 1274, zXG19) = zD (false, q) (d + 6) zc_X_init (zat zc_X_init 75) [(19, 0, 0), (0, 10, 0)] [(18, 1274, 0), (0, 10, 0), (33, 308, 12)] (zXF20, w, 1369, 26957, 1369, zXG20) := by
  have h := zXs_19 q d zXF19 w 1274 25279 zXG19
  rw [zupB_same zXh19] at h
  have h2 : zM (false, q) (d + 5) 9 [(18, 1274, 0)] (zXF19, w, 1275, 25290, 1275, (zupsB [(308, 9)] zXG19)) = some ((9, 0, 0), (zXF20, w, 1369, 26957, 1369, zXG20)) := zD_iff.mpr ⟨4000, zW_1274 q d _ w 1275 25290 _⟩
  rw [h, h2, zK_v]
theorem zXh20 : zXG20 0 7 = true := zXi20 (0, 7) (by decide +kernel)
def zXF21 : Int → Int → Int := zups (zLW 1369) zXF20
def zXG21 : Int → Int → Bool := zupsB (zLI 1369) (zupsB [(308, 10)] zXG20)
def zXL21 : List (Int × Int × Int) := (zLW 1369) ++ ([] ++ zXL20)
def zXI21 : List (Int × Int) := (zLI 1369) ++ ([(308, 10)] ++ zXI20)
theorem zXe21 : zXF21 = zups zXL21 (fun _ _ => 0) := by
  unfold zXF21 zXL21
  rw [zups_app, zups_app, ← zXe20]
  try rfl
theorem zXi21 : zsetB zXI21 zXG21 := zsetB_step (zsetB_step zXi20)
theorem zXt20 (q : Int × (Int → Int)) (d : Nat) (w : Int → Int) : zD (false, q) (d + 6) zc_X_init (zat zc_X_init 75) [(19, 0, 0), (0, 10, 0)] [(18, 1274, 0), (0, 10, 0), (33, 308, 12)] (zXF20, w, 1369, 26957, 1369, zXG20) = zD (false, q) (d + 6) zc_X_init (zat zc_X_init 75) [(19, 0, 0), (0, 11, 0)] [(18, 1369, 0), (0, 11, 0), (33, 308, 12)] (zXF21, w, 1464, 28635, 1464, zXG21) := by
  have h := zXs_20 q d zXF20 w 1369 26957 zXG20
  rw [zupB_same zXh20] at h
  have h2 : zM (false, q) (d + 5) 9 [(18, 1369, 0)] (zXF20, w, 1370, 26968, 1370, (zupsB [(308, 10)] zXG20)) = some ((9, 0, 0), (zXF21, w, 1464, 28635, 1464, zXG21)) := zD_iff.mpr ⟨4000, zW_1369 q d _ w 1370 26968 _⟩
  rw [h, h2, zK_v]
theorem zXh21 : zXG21 0 7 = true := zXi21 (0, 7) (by decide +kernel)
def zXG22 : Int → Int → Bool := (zupsB [(308, 11)] zXG21)
def zXI22 : List (Int × Int) := [(308, 11)] ++ zXI21
theorem zXi22 : zsetB zXI22 zXG22 := zsetB_step zXi21
theorem zXt21 (q : Int × (Int → Int)) (d : Nat) (w : Int → Int) : zD (false, q) (d + 6) zc_X_init (zat zc_X_init 75) [(19, 0, 0), (0, 11, 0)] [(18, 1369, 0), (0, 11, 0), (33, 308, 12)] (zXF21, w, 1464, 28635, 1464, zXG21) = some ((9, 0, 0), (zXF21, w, 1464, 28635, 1464, zXG22)) := by
  have h := zXs_21 q d zXF21 w 1464 28635 zXG21
  rw [zupB_same zXh21] at h
  exact h
