/-! ## how it begins: the constructors, run on a closed state -/
def zn8 : List zV → Bool
  | [] => true
  | (8, _, _) :: _ => false
  | _ :: l => zn8 l
theorem zn8_tl {v : zV} {l : List zV} (h : zn8 (v :: l) = true) : v.1 ≠ 8 ∧ zn8 l = true := by
  unfold zn8 at h
  split at h
  · rename_i e; cases e
  · cases h
  · rename_i v' l' hne e
    cases e
    obtain ⟨t, x, y⟩ := v
    exact ⟨fun z => hne x y (by rw [show t = 8 from z]), h⟩
theorem zst_q8 {ph : Bool} {q q' : Int × (Int → Int)} {c : zC} {is : zL} {ls st : List zV} {σ : zS} (h : zn8 st = true) : zst (ph, q) c is ls st σ = zst (ph, q') c is ls st σ := by
  cases is with
  | nil => rfl
  | cons i is =>
    cases i
    case arraylength =>
      show zstM (ph, q) .arraylength is ls st σ = zstM (ph, q') .arraylength is ls st σ
      delta zstM
      dsimp only
      cases st with
      | nil => rfl
      | cons v st =>
        obtain ⟨t, x, y⟩ := v
        obtain ⟨h8, -⟩ := zn8_tl h
        dsimp only
        split <;> first | rfl | exact absurd rfl h8
    case iaload =>
      show zstM (ph, q) .iaload is ls st σ = zstM (ph, q') .iaload is ls st σ
      delta zstM
      dsimp only
      cases st with
      | nil => rfl
      | cons v st =>
        cases st with
        | nil =>
          obtain ⟨u, x1, y1⟩ := v
          cases u <;> rfl
        | cons v2 st =>
          obtain ⟨t, x, y⟩ := v2
          obtain ⟨h8, -⟩ := zn8_tl (zn8_tl h).2
          obtain ⟨u, x1, y1⟩ := v
          cases u with
          | succ u => rfl
          | zero =>
            have h8 : t ≠ 8 := h8
            by_cases h30 : t = 30
            · subst h30
              rfl
            · have e : ∀ qq : Int × (Int → Int), zstM (ph, qq) .iaload is ls ((0, x1, y1) :: (t, x, y) :: st) σ = none := by
                intro qq
                delta zstM
                dsimp only
                repeat' split
                all_goals first
                  | rfl
                  | (exfalso; simp_all; done)
                  | simp_all
              exact (e q).trans (e q').symm
    all_goals rfl
def zXc (q : zQ) : Nat → Nat → zC → zL → List zV → List zV → zS → Option (zV × zS)
  | 0, _, _, _, _, _, _ => none
  | n + 1, d, c, is, ls, st, σ => match zn8 st with
    | false => none
    | true => match zst q c is ls st σ with
      | none => none
      | some (.inl (is, ls, st, σ)) => zXc q n d c is ls st σ
      | some (.inr (.inl ((o, x, y), (is1, ls1, st1, σ1), (is2, ls2, st2, σ2)))) => @ite _ (zcnd o x y) (zcndD o x y) (zXc q n d c is1 ls1 st1 σ1) (zXc q n d c is2 ls2 st2 σ2)
      | some (.inr (.inr (.inl (g, is, ls, st, σ)))) => @ite _ (zgd g) (zgdD g) (zXc q n d c is ls st σ) none
      | some (.inr (.inr (.inr (.inl (j, as, is, ls, st, σ))))) => match d with
        | 0 => none
        | d + 1 => zK (zXc q n (d + 1) c) zEx c is ls st (zXc q n d (zmL.getD j (0, [], [], 0)).2 (zmL.getD j (0, [], [], 0)).2.1 (zpad (zmL.getD j (0, [], [], 0)).1 as) [] σ)
      | some (.inr (.inr (.inr (.inr (.inl r))))) => some r
      | some (.inr (.inr (.inr (.inr (.inr (g, r)))))) => @ite _ (zgd g) (zgdD g) (some r) none
theorem zXc_ok {ph : Bool} (q q' : Int × (Int → Int)) : ∀ (n d : Nat) (c : zC) (is : zL) (ls st : List zV) (σ : zS) (r : zV × zS), zXc (ph, q) n d c is ls st σ = some r → zX (ph, q') n d c is ls st σ = some r := by
  intro n
  induction n with
  | zero => intro d c is ls st σ r h; simp [zXc] at h
  | succ n ih =>
    intro d c is ls st σ r h
    rw [zXc] at h
    cases h8 : zn8 st with
    | false => rw [h8] at h; cases h
    | true =>
      rw [h8] at h
      dsimp only at h
      rw [zX, ← zst_q8 (q := q) h8]
      cases hz : zst (ph, q) c is ls st σ with
      | none => rw [hz] at h; cases h
      | some A =>
        rw [hz] at h
        rcases A with ⟨is1, ls1, st1, σ1⟩ | ⟨⟨o, x, y⟩, ⟨is1, ls1, st1, σ1⟩, ⟨is2, ls2, st2, σ2⟩⟩ | ⟨g, is1, ls1, st1, σ1⟩ | ⟨j2, as, is1, ls1, st1, σ1⟩ | ⟨v1, σ1⟩ | ⟨g, v1, σ1⟩
        · exact ih _ _ _ _ _ _ _ h
        · dsimp only at h ⊢
          split at h
          · rename_i hc
            rw [if_pos hc]
            exact ih _ _ _ _ _ _ _ h
          · rename_i hc
            rw [if_neg hc]
            exact ih _ _ _ _ _ _ _ h
        · dsimp only at h ⊢
          split at h
          · rename_i hc
            rw [if_pos hc]
            exact ih _ _ _ _ _ _ _ h
          · cases h
        · cases d with
          | zero => cases h
          | succ d =>
            dsimp only at h ⊢
            exact zK_mono (fun is ls st σ r h => ih _ _ _ _ _ _ _ h) (fun x hx => ih _ _ _ _ _ _ _ hx) h
        · exact h
        · dsimp only at h ⊢
          split at h
          · rename_i hc
            rw [if_pos hc]
            exact h
          · cases h
def zs0 : zS := (fun _ _ => 0, fun _ => -1, 0, 0, 0, fun _ _ => false)
/-- behind new: an object of that class more -/
def zsN (σ : zS) (k : Nat) : zS := (σ.1, σ.2.1, σ.2.2.1 + 1, σ.2.2.2.1 + k, σ.2.2.2.2.1 + 1, σ.2.2.2.2.2)
def zR1 : Option (zV × zS) := zXc (false, 0, fun _ => 0) 60000 12 (zmc 13) (zmc 13).1 (zpad (zml 13) [(19, 0, 0)]) [] (zsN zs0 17)
def zS1 : zS := match zR1 with
  | some r => r.2
  | none => zs0
def zR2 : Option (zV × zS) := zXc (false, 0, fun _ => 0) 2000 12 (zmc 14) (zmc 14).1 (zpad (zml 14) [(20, 1464, 0)]) [] (zsN zS1 27)
def zS2 : zS := match zR2 with
  | some r => r.2
  | none => zs0
def zr9 (a : Option (zV × zS)) (n : Nat) : Bool := match a with
  | some ((9, x, y), σ) => decide (x = 0) && decide (y = 0) && Nat.beq σ.2.2.2.2.1 n
  | _ => false
