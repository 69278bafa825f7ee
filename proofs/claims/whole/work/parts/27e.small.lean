/-! ## the small ones -/
def zC_law2_L : List (Int × Int × Int) := [(2, 6, -1)]
def zC_law2_I : List (Int × Int) := [(2, 5), (2, 4), (2, 3), (2, 2), (2, 1), (2, 0)]
set_option maxRecDepth 100000 in
theorem zC_law2 (q : Int × (Int → Int)) (d : Nat) (f : Int → Int → Int) (w : Int → Int) (c s : Nat) (g : Int → Int → Bool) : zX (false, q) 400 (d + 5) (zmc 1) (zmc 1).1 (zpad (zml 1) [(12, 2, 0)]) [] (f, w, c, s, 3, g) = some ((9, 0, 0), (zups zC_law2_L f, w, c + 6, s + 512, 9, zupsB zC_law2_I g)) := rfl
def zC_law9_L : List (Int × Int × Int) := [(9, 6, -1)]
def zC_law9_I : List (Int × Int) := [(9, 5), (9, 4), (9, 3), (9, 2), (9, 1), (9, 0)]
set_option maxRecDepth 100000 in
theorem zC_law9 (q : Int × (Int → Int)) (d : Nat) (f : Int → Int → Int) (w : Int → Int) (c s : Nat) (g : Int → Int → Bool) : zX (false, q) 400 (d + 5) (zmc 1) (zmc 1).1 (zpad (zml 1) [(12, 9, 0)]) [] (f, w, c, s, 10, g) = some ((9, 0, 0), (zups zC_law9_L f, w, c + 6, s + 512, 16, zupsB zC_law9_I g)) := rfl
def zC_law16_L : List (Int × Int × Int) := [(16, 6, -1)]
def zC_law16_I : List (Int × Int) := [(16, 5), (16, 4), (16, 3), (16, 2), (16, 1), (16, 0)]
set_option maxRecDepth 100000 in
theorem zC_law16 (q : Int × (Int → Int)) (d : Nat) (f : Int → Int → Int) (w : Int → Int) (c s : Nat) (g : Int → Int → Bool) : zX (false, q) 400 (d + 5) (zmc 1) (zmc 1).1 (zpad (zml 1) [(12, 16, 0)]) [] (f, w, c, s, 17, g) = some ((9, 0, 0), (zups zC_law16_L f, w, c + 6, s + 512, 23, zupsB zC_law16_I g)) := rfl
def zC_text_L : List (Int × Int × Int) := [(309, 5, -1)]
def zC_text_I : List (Int × Int) := [(309, 2), (309, 1), (309, 0)]
set_option maxRecDepth 100000 in
theorem zC_text (q : Int × (Int → Int)) (d : Nat) (f : Int → Int → Int) (w : Int → Int) (c s : Nat) (g : Int → Int → Bool) : zX (false, q) 400 (d + 5) (zmc 10) (zmc 10).1 (zpad (zml 10) [(15, 309, 0)]) [] (f, w, c, s, 310, g) = some ((9, 0, 0), (zups zC_text_L f, w, c + 3, s + 1203, 313, zupsB zC_text_I g)) := rfl
def zC_per_L : List (Int × Int × Int) := []
def zC_per_I : List (Int × Int) := [(313, 2), (313, 1), (313, 0)]
set_option maxRecDepth 100000 in
theorem zC_per (q : Int × (Int → Int)) (d : Nat) (f : Int → Int → Int) (w : Int → Int) (c s : Nat) (g : Int → Int → Bool) : zX (false, q) 400 (d + 5) (zmc 11) (zmc 11).1 (zpad (zml 11) [(14, 313, 0)]) [] (f, w, c, s, 314, g) = some ((9, 0, 0), (zups zC_per_L f, w, c + 3, s + 224, 317, zupsB zC_per_I g)) := rfl
def zC_ways_L : List (Int × Int × Int) := []
def zC_ways_I : List (Int × Int) := [(317, 4), (317, 3), (317, 2), (317, 1), (317, 0)]
set_option maxRecDepth 100000 in
theorem zC_ways (q : Int × (Int → Int)) (d : Nat) (f : Int → Int → Int) (w : Int → Int) (c s : Nat) (g : Int → Int → Bool) : zX (false, q) 400 (d + 5) (zmc 12) (zmc 12).1 (zpad (zml 12) [(17, 317, 0)]) [] (f, w, c, s, 318, g) = some ((9, 0, 0), (zups zC_ways_L f, w, c + 5, s + 28, 323, zupsB zC_ways_I g)) := rfl
/-! ## the class -/
/-- steps in a row, branches that are decided among them -/
def zrun2 (q : zQ) (c : zC) : Nat → zL → List zV → List zV → zS → Option zA
  | 0, is, ls, st, σ => some (.inl (is, ls, st, σ))
  | k + 1, is, ls, st, σ => match zst q c is ls st σ with
    | some (.inl (is, ls, st, σ)) => zrun2 q c k is ls st σ
    | some (.inr (.inl ((o, x, y), (is1, ls1, st1, σ1), (is2, ls2, st2, σ2)))) => match zcndD o x y with
      | isTrue _ => zrun2 q c k is1 ls1 st1 σ1
      | isFalse _ => zrun2 q c k is2 ls2 st2 σ2
    | some (.inr (.inr (.inl (g, is, ls, st, σ)))) => match zgdD g with
      | isTrue _ => zrun2 q c k is ls st σ
      | isFalse _ => none
    | r => r
theorem zD_run2 {q : zQ} {d : Nat} {c : zC} : ∀ (k : Nat) {is : zL} {ls st : List zV} {σ : zS} {r : Option (zV × zS)}, zE q d c (zrun2 q c k is ls st σ) = r → zD q d c is ls st σ = r := by
  intro k
  induction k with
  | zero => intro is ls st σ r h; exact h
  | succ k ih =>
    intro is ls st σ r h
    rw [zD_step]
    unfold zrun2 at h
    cases hz : zst q c is ls st σ with
    | none => rw [hz] at h; exact h
    | some A =>
      rw [hz] at h
      rcases A with ⟨is1, ls1, st1, σ1⟩ | ⟨⟨o, x, y⟩, ⟨is1, ls1, st1, σ1⟩, ⟨is2, ls2, st2, σ2⟩⟩ | ⟨g, is1, ls1, st1, σ1⟩ | ⟨j2, as, is1, ls1, st1, σ1⟩ | ⟨v1, σ1⟩ | ⟨g, v1, σ1⟩
      · exact ih h
      · dsimp only at h
        show @ite _ (zcnd o x y) (zcndD o x y) (zD q d c is1 ls1 st1 σ1) (zD q d c is2 ls2 st2 σ2) = r
        split at h
        · rename_i hc _
          rw [if_pos hc]
          exact ih h
        · rename_i hc _
          rw [if_neg hc]
          exact ih h
      · dsimp only at h
        show @ite _ (zgd g) (zgdD g) (zD q d c is1 ls1 st1 σ1) none = r
        split at h
        · rename_i hc _
          rw [if_pos hc]
          exact ih h
        · rename_i hc _
          rw [if_neg hc]
          exact h
      · exact h
      · exact h
      · exact h
set_option maxRecDepth 100000 in
theorem zXs_0 (q : Int × (Int → Int)) (d : Nat) (f : Int → Int → Int) (w : Int → Int) (c s : Nat) (g : Int → Int → Bool) : zD (false, q) (d + 6) zc_X_init (zat zc_X_init 0) [(19, 0, 0), (2, 0, 0)] [] (f, w, c, s, 1, g) = zK (zD (false, q) (d + 6) zc_X_init) zEx zc_X_init (zat zc_X_init 10) [(19, 0, 0), (2, 0, 0)] [(12, 2, 0), (19, 0, 0)] (zM (false, q) (d + 5) 1 [(12, 2, 0)] (f, w, c + 2, s + 408, 3, zupsB [(0, 0)] g)) := zD_run2 10 rfl
set_option maxRecDepth 100000 in
theorem zXs_1 (q : Int × (Int → Int)) (d : Nat) (f : Int → Int → Int) (w : Int → Int) (c s : Nat) (g : Int → Int → Bool) : zD (false, q) (d + 6) zc_X_init (zat zc_X_init 10) [(19, 0, 0), (2, 0, 0)] [(12, 2, 0), (19, 0, 0)] (f, w, c, s, 9, g) = zK (zD (false, q) (d + 6) zc_X_init) zEx zc_X_init (zat zc_X_init 15) [(19, 0, 0), (2, 0, 0)] [(12, 9, 0), (19, 0, 0)] (zM (false, q) (d + 5) 1 [(12, 9, 0)] (f, w, c + 1, s + 8, 10, zupsB [(0, 1)] g)) := zD_run2 5 rfl
set_option maxRecDepth 100000 in
theorem zXs_2 (q : Int × (Int → Int)) (d : Nat) (f : Int → Int → Int) (w : Int → Int) (c s : Nat) (g : Int → Int → Bool) : zD (false, q) (d + 6) zc_X_init (zat zc_X_init 15) [(19, 0, 0), (2, 0, 0)] [(12, 9, 0), (19, 0, 0)] (f, w, c, s, 16, g) = zK (zD (false, q) (d + 6) zc_X_init) zEx zc_X_init (zat zc_X_init 20) [(19, 0, 0), (2, 0, 0)] [(12, 16, 0), (19, 0, 0)] (zM (false, q) (d + 5) 1 [(12, 16, 0)] (f, w, c + 1, s + 8, 17, zupsB [(0, 2)] g)) := zD_run2 5 rfl
set_option maxRecDepth 100000 in
theorem zXs_3 (q : Int × (Int → Int)) (d : Nat) (f : Int → Int → Int) (w : Int → Int) (c s : Nat) (g : Int → Int → Bool) : zD (false, q) (d + 6) zc_X_init (zat zc_X_init 20) [(19, 0, 0), (2, 0, 0)] [(12, 16, 0), (19, 0, 0)] (f, w, c, s, 23, g) = zK (zD (false, q) (d + 6) zc_X_init) zEx zc_X_init (zat zc_X_init 25) [(19, 0, 0), (2, 0, 0)] [(18, 23, 0), (19, 0, 0)] (zM (false, q) (d + 5) 9 [(18, 23, 0)] (f, w, c + 1, s + 11, 24, zupsB [(0, 3)] g)) := zD_run2 5 rfl
set_option maxRecDepth 100000 in
theorem zXs_4 (q : Int × (Int → Int)) (d : Nat) (f : Int → Int → Int) (w : Int → Int) (c s : Nat) (g : Int → Int → Bool) : zD (false, q) (d + 6) zc_X_init (zat zc_X_init 25) [(19, 0, 0), (2, 0, 0)] [(18, 23, 0), (19, 0, 0)] (f, w, c, s, 118, g) = zK (zD (false, q) (d + 6) zc_X_init) zEx zc_X_init (zat zc_X_init 30) [(19, 0, 0), (2, 0, 0)] [(18, 118, 0), (19, 0, 0)] (zM (false, q) (d + 5) 9 [(18, 118, 0)] (f, w, c + 1, s + 11, 119, zupsB [(0, 4)] g)) := zD_run2 5 rfl
set_option maxRecDepth 100000 in
theorem zXs_5 (q : Int × (Int → Int)) (d : Nat) (f : Int → Int → Int) (w : Int → Int) (c s : Nat) (g : Int → Int → Bool) : zD (false, q) (d + 6) zc_X_init (zat zc_X_init 30) [(19, 0, 0), (2, 0, 0)] [(18, 118, 0), (19, 0, 0)] (f, w, c, s, 213, g) = zK (zD (false, q) (d + 6) zc_X_init) zEx zc_X_init (zat zc_X_init 35) [(19, 0, 0), (2, 0, 0)] [(18, 213, 0), (19, 0, 0)] (zM (false, q) (d + 5) 9 [(18, 213, 0)] (f, w, c + 1, s + 11, 214, zupsB [(0, 5)] g)) := zD_run2 5 rfl
set_option maxRecDepth 100000 in
theorem zXs_6 (q : Int × (Int → Int)) (d : Nat) (f : Int → Int → Int) (w : Int → Int) (c s : Nat) (g : Int → Int → Bool) : zD (false, q) (d + 6) zc_X_init (zat zc_X_init 35) [(19, 0, 0), (2, 0, 0)] [(18, 213, 0), (19, 0, 0)] (f, w, c, s, 308, g) = zK (zD (false, q) (d + 6) zc_X_init) zEx zc_X_init (zat zc_X_init 44) [(19, 0, 0), (2, 0, 0)] [(15, 309, 0), (19, 0, 0)] (zM (false, q) (d + 5) 10 [(15, 309, 0)] (f, w, c + 2, s + 18, 310, zupsB [(0, 7), (0, 6)] g)) := zD_run2 9 rfl
set_option maxRecDepth 100000 in
theorem zXs_7 (q : Int × (Int → Int)) (d : Nat) (f : Int → Int → Int) (w : Int → Int) (c s : Nat) (g : Int → Int → Bool) : zD (false, q) (d + 6) zc_X_init (zat zc_X_init 44) [(19, 0, 0), (2, 0, 0)] [(15, 309, 0), (19, 0, 0)] (f, w, c, s, 313, g) = zK (zD (false, q) (d + 6) zc_X_init) zEx zc_X_init (zat zc_X_init 49) [(19, 0, 0), (2, 0, 0)] [(14, 313, 0), (19, 0, 0)] (zM (false, q) (d + 5) 11 [(14, 313, 0)] (f, w, c + 1, s + 4, 314, zupsB [(0, 8)] g)) := zD_run2 5 rfl
set_option maxRecDepth 100000 in
theorem zXs_8 (q : Int × (Int → Int)) (d : Nat) (f : Int → Int → Int) (w : Int → Int) (c s : Nat) (g : Int → Int → Bool) : zD (false, q) (d + 6) zc_X_init (zat zc_X_init 49) [(19, 0, 0), (2, 0, 0)] [(14, 313, 0), (19, 0, 0)] (f, w, c, s, 317, (zupB g 0 7)) = zK (zD (false, q) (d + 6) zc_X_init) zEx zc_X_init (zat zc_X_init 54) [(19, 0, 0), (2, 0, 0)] [(17, 317, 0), (19, 0, 0)] (zM (false, q) (d + 5) 12 [(17, 317, 0)] (f, w, c + 1, s + 7, 318, zupsB [(0, 9)] (zupB g 0 7))) := zD_run2 5 rfl
set_option maxRecDepth 100000 in
theorem zXs_9 (q : Int × (Int → Int)) (d : Nat) (f : Int → Int → Int) (w : Int → Int) (c s : Nat) (g : Int → Int → Bool) : zD (false, q) (d + 6) zc_X_init (zat zc_X_init 54) [(19, 0, 0), (2, 0, 0)] [(17, 317, 0), (19, 0, 0)] (f, w, c, s, 323, (zupB g 0 7)) = zK (zD (false, q) (d + 6) zc_X_init) zEx zc_X_init (zat zc_X_init 75) [(19, 0, 0), (0, 0, 0)] [(18, 324, 0), (0, 0, 0), (33, 308, 12)] (zM (false, q) (d + 5) 9 [(18, 324, 0)] (zups [(0, 13, -1)] f, w, c + 2, s + 15, 325, zupsB [(0, 11), (0, 10)] (zupB g 0 7))) := zD_run2 21 rfl
set_option maxRecDepth 100000 in
theorem zXs_10 (q : Int × (Int → Int)) (d : Nat) (f : Int → Int → Int) (w : Int → Int) (c s : Nat) (g : Int → Int → Bool) : zD (false, q) (d + 6) zc_X_init (zat zc_X_init 75) [(19, 0, 0), (0, 0, 0)] [(18, 324, 0), (0, 0, 0), (33, 308, 12)] (f, w, c, s, 419, (zupB g 0 7)) = zK (zD (false, q) (d + 6) zc_X_init) zEx zc_X_init (zat zc_X_init 75) [(19, 0, 0), (0, 1, 0)] [(18, 419, 0), (0, 1, 0), (33, 308, 12)] (zM (false, q) (d + 5) 9 [(18, 419, 0)] (f, w, c + 1, s + 11, 420, zupsB [(308, 0)] (zupB g 0 7))) := zD_run2 14 rfl
set_option maxRecDepth 100000 in
theorem zXs_11 (q : Int × (Int → Int)) (d : Nat) (f : Int → Int → Int) (w : Int → Int) (c s : Nat) (g : Int → Int → Bool) : zD (false, q) (d + 6) zc_X_init (zat zc_X_init 75) [(19, 0, 0), (0, 1, 0)] [(18, 419, 0), (0, 1, 0), (33, 308, 12)] (f, w, c, s, 514, (zupB g 0 7)) = zK (zD (false, q) (d + 6) zc_X_init) zEx zc_X_init (zat zc_X_init 75) [(19, 0, 0), (0, 2, 0)] [(18, 514, 0), (0, 2, 0), (33, 308, 12)] (zM (false, q) (d + 5) 9 [(18, 514, 0)] (f, w, c + 1, s + 11, 515, zupsB [(308, 1)] (zupB g 0 7))) := zD_run2 14 rfl
set_option maxRecDepth 100000 in
theorem zXs_12 (q : Int × (Int → Int)) (d : Nat) (f : Int → Int → Int) (w : Int → Int) (c s : Nat) (g : Int → Int → Bool) : zD (false, q) (d + 6) zc_X_init (zat zc_X_init 75) [(19, 0, 0), (0, 2, 0)] [(18, 514, 0), (0, 2, 0), (33, 308, 12)] (f, w, c, s, 609, (zupB g 0 7)) = zK (zD (false, q) (d + 6) zc_X_init) zEx zc_X_init (zat zc_X_init 75) [(19, 0, 0), (0, 3, 0)] [(18, 609, 0), (0, 3, 0), (33, 308, 12)] (zM (false, q) (d + 5) 9 [(18, 609, 0)] (f, w, c + 1, s + 11, 610, zupsB [(308, 2)] (zupB g 0 7))) := zD_run2 14 rfl
set_option maxRecDepth 100000 in
theorem zXs_13 (q : Int × (Int → Int)) (d : Nat) (f : Int → Int → Int) (w : Int → Int) (c s : Nat) (g : Int → Int → Bool) : zD (false, q) (d + 6) zc_X_init (zat zc_X_init 75) [(19, 0, 0), (0, 3, 0)] [(18, 609, 0), (0, 3, 0), (33, 308, 12)] (f, w, c, s, 704, (zupB g 0 7)) = zK (zD (false, q) (d + 6) zc_X_init) zEx zc_X_init (zat zc_X_init 75) [(19, 0, 0), (0, 4, 0)] [(18, 704, 0), (0, 4, 0), (33, 308, 12)] (zM (false, q) (d + 5) 9 [(18, 704, 0)] (f, w, c + 1, s + 11, 705, zupsB [(308, 3)] (zupB g 0 7))) := zD_run2 14 rfl
set_option maxRecDepth 100000 in
theorem zXs_14 (q : Int × (Int → Int)) (d : Nat) (f : Int → Int → Int) (w : Int → Int) (c s : Nat) (g : Int → Int → Bool) : zD (false, q) (d + 6) zc_X_init (zat zc_X_init 75) [(19, 0, 0), (0, 4, 0)] [(18, 704, 0), (0, 4, 0), (33, 308, 12)] (f, w, c, s, 799, (zupB g 0 7)) = zK (zD (false, q) (d + 6) zc_X_init) zEx zc_X_init (zat zc_X_init 75) [(19, 0, 0), (0, 5, 0)] [(18, 799, 0), (0, 5, 0), (33, 308, 12)] (zM (false, q) (d + 5) 9 [(18, 799, 0)] (f, w, c + 1, s + 11, 800, zupsB [(308, 4)] (zupB g 0 7))) := zD_run2 14 rfl
set_option maxRecDepth 100000 in
theorem zXs_15 (q : Int × (Int → Int)) (d : Nat) (f : Int → Int → Int) (w : Int → Int) (c s : Nat) (g : Int → Int → Bool) : zD (false, q) (d + 6) zc_X_init (zat zc_X_init 75) [(19, 0, 0), (0, 5, 0)] [(18, 799, 0), (0, 5, 0), (33, 308, 12)] (f, w, c, s, 894, (zupB g 0 7)) = zK (zD (false, q) (d + 6) zc_X_init) zEx zc_X_init (zat zc_X_init 75) [(19, 0, 0), (0, 6, 0)] [(18, 894, 0), (0, 6, 0), (33, 308, 12)] (zM (false, q) (d + 5) 9 [(18, 894, 0)] (f, w, c + 1, s + 11, 895, zupsB [(308, 5)] (zupB g 0 7))) := zD_run2 14 rfl
set_option maxRecDepth 100000 in
theorem zXs_16 (q : Int × (Int → Int)) (d : Nat) (f : Int → Int → Int) (w : Int → Int) (c s : Nat) (g : Int → Int → Bool) : zD (false, q) (d + 6) zc_X_init (zat zc_X_init 75) [(19, 0, 0), (0, 6, 0)] [(18, 894, 0), (0, 6, 0), (33, 308, 12)] (f, w, c, s, 989, (zupB g 0 7)) = zK (zD (false, q) (d + 6) zc_X_init) zEx zc_X_init (zat zc_X_init 75) [(19, 0, 0), (0, 7, 0)] [(18, 989, 0), (0, 7, 0), (33, 308, 12)] (zM (false, q) (d + 5) 9 [(18, 989, 0)] (f, w, c + 1, s + 11, 990, zupsB [(308, 6)] (zupB g 0 7))) := zD_run2 14 rfl
set_option maxRecDepth 100000 in
theorem zXs_17 (q : Int × (Int → Int)) (d : Nat) (f : Int → Int → Int) (w : Int → Int) (c s : Nat) (g : Int → Int → Bool) : zD (false, q) (d + 6) zc_X_init (zat zc_X_init 75) [(19, 0, 0), (0, 7, 0)] [(18, 989, 0), (0, 7, 0), (33, 308, 12)] (f, w, c, s, 1084, (zupB g 0 7)) = zK (zD (false, q) (d + 6) zc_X_init) zEx zc_X_init (zat zc_X_init 75) [(19, 0, 0), (0, 8, 0)] [(18, 1084, 0), (0, 8, 0), (33, 308, 12)] (zM (false, q) (d + 5) 9 [(18, 1084, 0)] (f, w, c + 1, s + 11, 1085, zupsB [(308, 7)] (zupB g 0 7))) := zD_run2 14 rfl
set_option maxRecDepth 100000 in
theorem zXs_18 (q : Int × (Int → Int)) (d : Nat) (f : Int → Int → Int) (w : Int → Int) (c s : Nat) (g : Int → Int → Bool) : zD (false, q) (d + 6) zc_X_init (zat zc_X_init 75) [(19, 0, 0), (0, 8, 0)] [(18, 1084, 0), (0, 8, 0), (33, 308, 12)] (f, w, c, s, 1179, (zupB g 0 7)) = zK (zD (false, q) (d + 6) zc_X_init) zEx zc_X_init (zat zc_X_init 75) [(19, 0, 0), (0, 9, 0)] [(18, 1179, 0), (0, 9, 0), (33, 308, 12)] (zM (false, q) (d + 5) 9 [(18, 1179, 0)] (f, w, c + 1, s + 11, 1180, zupsB [(308, 8)] (zupB g 0 7))) := zD_run2 14 rfl
set_option maxRecDepth 100000 in
theorem zXs_19 (q : Int × (Int → Int)) (d : Nat) (f : Int → Int → Int) (w : Int → Int) (c s : Nat) (g : Int → Int → Bool) : zD (false, q) (d + 6) zc_X_init (zat zc_X_init 75) [(19, 0, 0), (0, 9, 0)] [(18, 1179, 0), (0, 9, 0), (33, 308, 12)] (f, w, c, s, 1274, (zupB g 0 7)) = zK (zD (false, q) (d + 6) zc_X_init) zEx zc_X_init (zat zc_X_init 75) [(19, 0, 0), (0, 10, 0)] [(18, 1274, 0), (0, 10, 0), (33, 308, 12)] (zM (false, q) (d + 5) 9 [(18, 1274, 0)] (f, w, c + 1, s + 11, 1275, zupsB [(308, 9)] (zupB g 0 7))) := zD_run2 14 rfl
set_option maxRecDepth 100000 in
theorem zXs_20 (q : Int × (Int → Int)) (d : Nat) (f : Int → Int → Int) (w : Int → Int) (c s : Nat) (g : Int → Int → Bool) : zD (false, q) (d + 6) zc_X_init (zat zc_X_init 75) [(19, 0, 0), (0, 10, 0)] [(18, 1274, 0), (0, 10, 0), (33, 308, 12)] (f, w, c, s, 1369, (zupB g 0 7)) = zK (zD (false, q) (d + 6) zc_X_init) zEx zc_X_init (zat zc_X_init 75) [(19, 0, 0), (0, 11, 0)] [(18, 1369, 0), (0, 11, 0), (33, 308, 12)] (zM (false, q) (d + 5) 9 [(18, 1369, 0)] (f, w, c + 1, s + 11, 1370, zupsB [(308, 10)] (zupB g 0 7))) := zD_run2 14 rfl
set_option maxRecDepth 100000 in
theorem zXs_21 (q : Int × (Int → Int)) (d : Nat) (f : Int → Int → Int) (w : Int → Int) (c s : Nat) (g : Int → Int → Bool) : zD (false, q) (d + 6) zc_X_init (zat zc_X_init 75) [(19, 0, 0), (0, 11, 0)] [(18, 1369, 0), (0, 11, 0), (33, 308, 12)] (f, w, c, s, 1464, (zupB g 0 7)) = some ((9, 0, 0), (f, w, c, s, 1464, zupsB [(308, 11)] (zupB g 0 7))) := zD_run2 9 rfl
