/-! ## a run that writes down what it writes -/
abbrev zT : Type := List (Int × Int × Int) × Nat × Nat × Nat × List (Int × Int)
abbrev zFTr : Type := zL × List zV × List zV × zT
abbrev zAT : Type := zFTr ⊕ ((ClassFile.Cond × Int × Int) × zFTr × zFTr) ⊕ (List Int × zFTr) ⊕ (Nat × List zV × zFTr) ⊕ (zV × zT)
def zden (f : Int → Int → Int) (w : Int → Int) (c0 s0 : Nat) (g : Int → Int → Bool) (T : zT) : zS := (zups T.1 f, w, c0 + T.2.1, s0 + T.2.2.1, T.2.2.2.1, zupsB T.2.2.2.2 g)
def zdF (D : zT → zS) (F : zFTr) : zF := (F.1, F.2.1, F.2.2.1, D F.2.2.2)
def zdA (D : zT → zS) : zAT → zA
  | .inl F => .inl (zdF D F)
  | .inr (.inl (o, A, B)) => .inr (.inl (o, zdF D A, zdF D B))
  | .inr (.inr (.inl (l, F))) => .inr (.inr (.inl (l, zdF D F)))
  | .inr (.inr (.inr (.inl (j, as, F)))) => .inr (.inr (.inr (.inl (j, as, zdF D F))))
  | .inr (.inr (.inr (.inr (v, T)))) => .inr (.inr (.inr (.inr (.inl (v, D T)))))
def zin2 : List (Int × Int) → Int → Int → Bool
  | [], _, _ => false
  | e :: l, a, k => (decide (a = e.1) && decide (k = e.2)) || zin2 l a k
theorem zin2_ok {g : Int → Int → Bool} {a k : Int} : ∀ (l : List (Int × Int)), zin2 l a k = true → zupsB l g a k = true := by
  intro l
  induction l with
  | nil => intro h; cases h
  | cons e l ih =>
    intro h
    rw [zin2, Bool.or_eq_true, Bool.and_eq_true] at h
    show zupB (zupsB l g) e.1 e.2 a k = true
    unfold zupB
    split
    · rfl
    · rename_i hn
      rcases h with h | h
      · exact absurd ⟨of_decide_eq_true h.1, of_decide_eq_true h.2⟩ hn
      · exact ih h
abbrev ztgo (is : zL) (ls st : List zV) (T : zT) : Option zAT := some (.inl (is, ls, st, T))
def ztnw (t : Nat) (y : Int) (k : Nat) (is : zL) (ls st : List zV) (T : zT) : Option zAT := match decide (T.2.2.2.1 < 1479 ∧ zSq T.2.2.2.1 = t ∧ (t < 30 ∨ zYq T.2.2.2.1 = y)) with
  | true => ztgo is ls ((t, (T.2.2.2.1 : Int), zYq T.2.2.2.1) :: st) (T.1, T.2.1 + 1, T.2.2.1 + k, T.2.2.2.1 + 1, T.2.2.2.2)
  | false => none
def zrs (c : zC) (is : zL) (ls st : List zV) (T : zT) : Option zAT := match is with
  | [] => none
  | i :: is => match i with
    | .iload k => match zget ls k with
      | (0, x, y) => ztgo is ls ((0, x, y) :: st) T
      | _ => none
    | .aload k => match zget ls k with
      | (t, x, y) => match Nat.ble 3 t with
        | true => ztgo is ls ((t, x, y) :: st) T
        | false => none
    | .iconst k => ztgo is ls ((0, k, 0) :: st) T
    | .istore k => match st with
      | (0, x, y) :: st => ztgo is (zset ls k (0, x, y)) st T
      | _ => none
    | .iinc k n => match zget ls k with
      | (0, x, _) => ztgo is (zset ls k (0, zw (x + n), 0)) st T
      | _ => none
    | .goto t => ztgo (zdrop c.1 t.toNat) ls st T
    | .dup => match st with
      | (0, a, b) :: st => ztgo is ls ((0, a, b) :: (0, a, b) :: st) T
      | (n + 2, a, b) :: st => ztgo is ls ((n + 2, a, b) :: (n + 2, a, b) :: st) T
      | _ => none
    | .if_icmp o t => match st with
      | (0, y, _) :: (0, x, _) :: st => some (.inr (.inl ((o, x, y), (zdrop c.1 t.toNat, ls, st, T), (is, ls, st, T))))
      | _ => none
    | .ifCond o t => match st with
      | (0, x, _) :: st => some (.inr (.inl ((o, x, 0), (zdrop c.1 t.toNat, ls, st, T), (is, ls, st, T))))
      | _ => none
    | .invokeinterface j n => match zsplit n st [] with
      | some (as, st) => match zn1 as && zs4 st && zrc (zrtl.getD j 0) as with
        | true => some (.inr (.inr (.inr (.inl (j, as, is, ls, st, T)))))
        | false => none
      | none => none
    | .getfield k => match st with
      | (t, a, y) :: st => match Nat.ble 1000 k with
        | true => none
        | false => match Nat.beq t (10 + k / 64) with
          | true => match zfd (k / 64) (k % 64) a y with
            | none => none
            | some v => match zin2 T.2.2.2.2 a (k % 64 : Nat) with
              | true => ztgo is ls (v :: st) T
              | false => none
          | false => none
      | _ => none
    | .putfield k => match st with
      | (r, v, z) :: (t, a, y) :: st => match Nat.beq t (10 + k / 64) with
        | true => match zfd (k / 64) (k % 64) a y with
          | none => match r with
            | 0 => match zfz (k / 64) (k % 64) with
              | false => ztgo is ls st ((a, ((k % 64 : Nat) : Int), v) :: T.1, T.2)
              | true => some (.inr (.inr (.inl ([v, 2], (is, ls, st, ((a, ((k % 64 : Nat) : Int), v) :: T.1, T.2))))))
            | _ => none
          | some u => match decide (u = (r, v, z)) with
            | true => ztgo is ls st (T.1, T.2.1, T.2.2.1, T.2.2.2.1, (a, ((k % 64 : Nat) : Int)) :: T.2.2.2.2)
            | false => none
        | false => none
      | _ => none
    | .arraylength => match st with
      | (30, _, y) :: st => ztgo is ls ((0, y, 0) :: st) T
      | (32, _, y) :: st => ztgo is ls ((0, y, 0) :: st) T
      | (33, _, y) :: st => ztgo is ls ((0, y, 0) :: st) T
      | _ => none
    | .iastore => match st with
      | (0, v, _) :: (0, i, _) :: (30, a, y) :: st => some (.inr (.inr (.inl ([i, y], (is, ls, st, ((a, i, v) :: T.1, T.2))))))
      | _ => none
    | .aastore => match st with
      | (r, v, z) :: (0, i, _) :: (t, a, y) :: st => match t with
        | 34 => none
        | _ => match decide ((t = 32 ∨ t = 33) ∧ zrl t a i = (r, v, z)) with
          | true => some (.inr (.inr (.inl ([i, y], (is, ls, st, (T.1, T.2.1, T.2.2.1, T.2.2.2.1, (a, i) :: T.2.2.2.2))))))
          | false => none
      | _ => none
    | .new k => match Nat.ble 100 k with
      | true => none
      | false => match Nat.blt k 11 with
        | true => ztnw (10 + k) 0 (zNF k) is ls st T
        | false => none
    | .newarray t => match st with
      | (0, n, _) :: st => match decide (0 ≤ n) with
        | true => match t with
          | .int => ztnw 30 n n.toNat is ls st T
          | .long => ztnw 31 n n.toNat is ls st T
          | _ => none
        | false => none
      | _ => none
    | .anewarray t => match st with
      | (0, n, _) :: st => match decide (0 ≤ n ∧ (t = 32 ∨ t = 33 ∨ t = 34)) with
        | true => ztnw t n n.toNat is ls st T
        | false => none
      | _ => none
    | .invokespecial _ => match st with
      | [(t, _, _)] => match Nat.ble 10 t with
        | true => ztgo is ls [] T
        | false => none
      | _ => none
    | .return_ => match st with
      | [] => some (.inr (.inr (.inr (.inr ((9, 0, 0), T)))))
      | _ => none
    | _ => none
theorem ztnw_ok {f : Int → Int → Int} {w : Int → Int} {c0 s0 : Nat} {g : Int → Int → Bool} {t : Nat} {y : Int} {k : Nat} {is : zL} {ls st : List zV} {T : zT} {r : zAT} (h : ztnw t y k is ls st T = some r) : znw t y k is ls st (zden f w c0 s0 g T) = some (zdA (zden f w c0 s0 g) r) := by
  unfold ztnw at h
  unfold znw
  rw [zSq_fn, zYq_fn]
  split at h
  · rename_i e
    have e2 : decide ((zden f w c0 s0 g T).2.2.2.2.1 < 1479 ∧ zSq (zden f w c0 s0 g T).2.2.2.2.1 = t ∧ (t < 30 ∨ zYq (zden f w c0 s0 g T).2.2.2.2.1 = y)) = true := e
    rw [e2]
    cases h
    show some _ = some _
    unfold zden
    dsimp only [zdA, zdF]
    rw [Nat.add_assoc s0, Nat.add_assoc c0]
  · cases h
theorem zrs_ok {q : Int × (Int → Int)} {f : Int → Int → Int} {w : Int → Int} {c0 s0 : Nat} {g : Int → Int → Bool} {c : zC} {is : zL} {ls st : List zV} {T : zT} {r : zAT} (h : zrs c is ls st T = some r) : zst (false, q) c is ls st (zden f w c0 s0 g T) = some (zdA (zden f w c0 s0 g) r) := by
  cases is with
  | nil =>
    delta zrs at h
    dsimp only at h
    cases h
  | cons i is =>
    cases i
    case iload k =>
      delta zrs at h
      dsimp only at h
      delta zst
      try dsimp only
      split at h
      · rename_i e
        cases h
        rw [e]
        rfl
      · cases h
    case aload k =>
      delta zrs at h
      dsimp only at h
      delta zst
      try dsimp only
      rcases hz : zget ls k with ⟨t, x, y⟩
      rw [hz] at h
      dsimp only at h
      try dsimp only
      split at h
      · rename_i e2
        cases h
        rw [e2]
        rfl
      · cases h
    case iconst k =>
      delta zrs at h
      dsimp only at h
      cases h
      rfl
    case istore k =>
      delta zrs at h
      dsimp only at h
      split at h
      · cases h
        rfl
      · cases h
    case iinc k n =>
      delta zrs at h
      dsimp only at h
      delta zst
      try dsimp only
      split at h
      · rename_i e
        cases h
        rw [e]
        rfl
      · cases h
    case goto t =>
      delta zrs at h
      dsimp only at h
      cases h
      rfl
    case dup =>
      delta zrs at h
      dsimp only at h
      split at h
      · cases h
        rfl
      · cases h
        rfl
      · cases h
    case if_icmp o t =>
      delta zrs at h
      dsimp only at h
      split at h
      · cases h
        rfl
      · cases h
    case ifCond o t =>
      delta zrs at h
      dsimp only at h
      split at h
      · cases h
        rfl
      · cases h
    case invokeinterface j n =>
      delta zrs at h
      dsimp only at h
      delta zst
      try dsimp only
      split at h
      · rename_i e
        rw [e]
        try dsimp only
        split at h
        · rename_i e2
          cases h
          rw [e2]
          rfl
        · cases h
      · cases h
    case getfield k =>
      delta zrs at h
      dsimp only at h
      delta zst
      try dsimp only
      delta zstM
      try dsimp only
      split at h
      · rename_i t a y st
        try dsimp only
        split at h
        · cases h
        · rename_i e1
          rw [e1]
          try dsimp only
          split at h
          · rename_i e2
            rw [e2]
            try dsimp only
            split at h
            · cases h
            · rename_i v e3
              rw [e3]
              try dsimp only
              split at h
              · rename_i e4
                have e5 : (zden f w c0 s0 g T).2.2.2.2.2 a (k % 64 : Nat) = true := zin2_ok _ e4
                rw [e5]
                cases h
                rfl
              · cases h
          · cases h
      · cases h
    case putfield k =>
      delta zrs at h
      dsimp only at h
      delta zst
      try dsimp only
      delta zstM
      try dsimp only
      split at h
      · rename_i r1 v z t a y st
        try dsimp only
        split at h
        · rename_i e1
          rw [e1]
          try dsimp only
          split at h
          · rename_i e2
            rw [e2]
            try dsimp only
            split at h
            · try dsimp only
              split at h
              · rename_i e3
                rw [e3]
                cases h
                rfl
              · rename_i e3
                rw [e3]
                cases h
                rfl
            · cases h
          · rename_i u e2
            rw [e2]
            try dsimp only
            split at h
            · rename_i e3
              rw [e3]
              cases h
              rfl
            · cases h
        · cases h
      · cases h
    case arraylength =>
      delta zrs at h
      dsimp only at h
      split at h
      · cases h
        rfl
      · cases h
        rfl
      · cases h
        rfl
      · cases h
    case iastore =>
      delta zrs at h
      dsimp only at h
      split at h
      · cases h
        rfl
      · cases h
    case aastore =>
      delta zrs at h
      dsimp only at h
      delta zst
      try dsimp only
      delta zstM
      try dsimp only
      split at h
      · rename_i r1 v z i y1 t a y st
        try dsimp only
        split at h
        · cases h
        · rename_i hne
          split at h
          · rename_i e
            have e2 := (of_decide_eq_true e)
            cases h
            rcases e2.1 with rfl | rfl
            · show (match decide (((32 : Nat) = 32 ∨ (32 : Nat) = 33) ∧ zrl 32 a i = (r1, v, z)) with
                | true => some (zdA (zden f w c0 s0 g) (.inr (.inr (.inl ([i, y], (is, ls, st, (T.1, T.2.1, T.2.2.1, T.2.2.2.1, (a, i) :: T.2.2.2.2)))))))
                | false => none) = _
              rw [e]
            · show (match decide (((33 : Nat) = 32 ∨ (33 : Nat) = 33) ∧ zrl 33 a i = (r1, v, z)) with
                | true => some (zdA (zden f w c0 s0 g) (.inr (.inr (.inl ([i, y], (is, ls, st, (T.1, T.2.1, T.2.2.1, T.2.2.2.1, (a, i) :: T.2.2.2.2)))))))
                | false => none) = _
              rw [e]
          · cases h
      · cases h
    case new k =>
      delta zrs at h
      dsimp only at h
      delta zst
      try dsimp only
      delta zstN
      try dsimp only
      split at h
      · cases h
      · rename_i e1
        rw [e1]
        try dsimp only
        split at h
        · rename_i e2
          rw [e2]
          exact ztnw_ok h
        · cases h
    case newarray t =>
      delta zrs at h
      dsimp only at h
      delta zst
      try dsimp only
      delta zstN
      try dsimp only
      split at h
      · rename_i n yy st1
        split at h
        · rename_i e1
          split at h
          · show (match decide (0 ≤ n) with
              | true => znw 30 n n.toNat is ls st1 (zden f w c0 s0 g T)
              | false => none) = _
            rw [e1]
            exact ztnw_ok h
          · show (match decide (0 ≤ n) with
              | true => znw 31 n n.toNat is ls st1 (zden f w c0 s0 g T)
              | false => none) = _
            rw [e1]
            exact ztnw_ok h
          · cases h
        · cases h
      · cases h
    case anewarray t =>
      delta zrs at h
      dsimp only at h
      delta zst
      try dsimp only
      delta zstN
      try dsimp only
      split at h
      · rename_i n yy st1
        split at h
        · rename_i e1
          show (match decide (0 ≤ n ∧ (t = 32 ∨ t = 33 ∨ t = 34)) with
            | true => znw t n n.toNat is ls st1 (zden f w c0 s0 g T)
            | false => none) = _
          rw [e1]
          exact ztnw_ok h
        · cases h
      · cases h
    case invokespecial j =>
      delta zrs at h
      dsimp only at h
      delta zst
      try dsimp only
      delta zstN
      try dsimp only
      split at h
      · try dsimp only
        split at h
        · rename_i e1
          rw [e1]
          cases h
          rfl
        · cases h
      · cases h
    case return_ =>
      delta zrs at h
      dsimp only at h
      split at h
      · cases h
        rfl
      · cases h
    all_goals (delta zrs at h; dsimp only at h; cases h)
def zRn : Nat → Nat → zC → zL → List zV → List zV → zT → Option (zV × zT)
  | 0, _, _, _, _, _, _ => none
  | n + 1, d, c, is, ls, st, T => match zrs c is ls st T with
    | none => none
    | some (.inl (is, ls, st, T)) => zRn n d c is ls st T
    | some (.inr (.inl ((o, x, y), (is1, ls1, st1, T1), (is2, ls2, st2, T2)))) => @ite _ (zcnd o x y) (zcndD o x y) (zRn n d c is1 ls1 st1 T1) (zRn n d c is2 ls2 st2 T2)
    | some (.inr (.inr (.inl (l, is, ls, st, T)))) => @ite _ (zgd l) (zgdD l) (zRn n d c is ls st T) none
    | some (.inr (.inr (.inr (.inl (j, as, is, ls, st, T))))) => match d with
      | 0 => none
      | d + 1 => match zRn n d (zmL.getD j (0, [], [], 0)).2 (zmL.getD j (0, [], [], 0)).2.1 (zpad (zmL.getD j (0, [], [], 0)).1 as) [] T with
        | none => none
        | some ((9, _, _), T) => zRn n (d + 1) c is ls st T
        | some (_, _) => none
    | some (.inr (.inr (.inr (.inr r)))) => some r
theorem zRn_ok {q : Int × (Int → Int)} {f : Int → Int → Int} {w : Int → Int} {c0 s0 e : Nat} {g : Int → Int → Bool} : ∀ (n d : Nat) (c : zC) (is : zL) (ls st : List zV) (T : zT) (v : zV) (T2 : zT), zRn n d c is ls st T = some (v, T2) → zX (false, q) n (e + d) c is ls st (zden f w c0 s0 g T) = some (v, zden f w c0 s0 g T2) := by
  intro n
  induction n with
  | zero => intro d c is ls st T v T2 h; cases h
  | succ n ih =>
    intro d c is ls st T v T2 h
    rw [zRn] at h
    rw [zX]
    cases hz : zrs c is ls st T with
    | none => rw [hz] at h; cases h
    | some A =>
      rw [hz] at h
      rw [zrs_ok hz]
      rcases A with ⟨is1, ls1, st1, T1⟩ | ⟨⟨o, x, y⟩, ⟨is1, ls1, st1, T1⟩, ⟨is2, ls2, st2, T3⟩⟩ | ⟨l, is1, ls1, st1, T1⟩ | ⟨j, as, is1, ls1, st1, T1⟩ | ⟨v1, T1⟩
      · exact ih _ _ _ _ _ _ _ _ h
      · dsimp only at h
        show @ite _ (zcnd o x y) (zcndD o x y) _ _ = _
        split at h
        · rename_i hc
          rw [if_pos hc]
          exact ih _ _ _ _ _ _ _ _ h
        · rename_i hc
          rw [if_neg hc]
          exact ih _ _ _ _ _ _ _ _ h
      · dsimp only at h
        show @ite _ (zgd l) (zgdD l) _ _ = _
        split at h
        · rename_i hc
          rw [if_pos hc]
          exact ih _ _ _ _ _ _ _ _ h
        · cases h
      · cases d with
        | zero => cases h
        | succ d =>
          dsimp only at h
          split at h
          · cases h
          · rename_i x1 y1 T4 hr
            have h1 := ih _ _ _ _ _ _ _ _ hr
            show zK (zX (false, q) n (e + d + 1) c) zEx c is1 ls1 st1 (zX (false, q) n (e + d) (zmL.getD j (0, [], [], 0)).2 (zmL.getD j (0, [], [], 0)).2.1 (zpad (zmL.getD j (0, [], [], 0)).1 as) [] (zden f w c0 s0 g T1)) = _
            rw [h1]
            exact ih _ _ _ _ _ _ _ _ h
          · cases h
      · cases h
        rfl
def zTq (a b : zT) : Bool := decide (a.1 = b.1) && (Nat.beq a.2.1 b.2.1 && (Nat.beq a.2.2.1 b.2.2.1 && (Nat.beq a.2.2.2.1 b.2.2.2.1 && decide (a.2.2.2.2 = b.2.2.2.2))))
theorem zTq_ok {a b : zT} (h : zTq a b = true) : a = b := by
  obtain ⟨a1, a2, a3, a4, a5⟩ := a
  obtain ⟨b1, b2, b3, b4, b5⟩ := b
  unfold zTq at h
  simp only [Bool.and_eq_true, decide_eq_true_eq] at h
  obtain ⟨h1, h2, h3, h4, h5⟩ := h
  rw [h1, Nat.eq_of_beq_eq_true h2, Nat.eq_of_beq_eq_true h3, Nat.eq_of_beq_eq_true h4, h5]
def zRq (r : Option (zV × zT)) (T : zT) : Bool := match r with
  | some ((9, x, y), T2) => decide (x = 0) && (decide (y = 0) && zTq T2 T)
  | _ => false
theorem zRq_ok {r : Option (zV × zT)} {T : zT} (h : zRq r T = true) : r = some ((9, 0, 0), T) := by
  unfold zRq at h
  split at h
  · rename_i x y T2
    simp only [Bool.and_eq_true, decide_eq_true_eq] at h
    rw [h.1, h.2.1, zTq_ok h.2.2]
  · cases h
