/-! ## the steps of fields, rows of references, new objects -/
section ZP
variable {p : Program} {l : Launch} {e : Env} {R : Room} {s : State} {m : MethodId} {args : Array Value} {below : List Frame} {meth : Method} {c : Code} {Q : State → Prop} {K : zCx} {ph : Bool} {j d : Nat} {ad0 : Nat → Nat} {n0 c0 s0 : Nat}
variable {is : zL} {ls st : List zV} {σ : zS} {ad : Nat → Nat} {H : Heap} {locs : List Loc} {lm : Array Slot} {sm : List Value} {pc t len : Nat} {r : Instr} {A : zA}
theorem zp_aaload  (h0 : 0 < j) (h1 : j < 317) (hLK : K.L ≤ 3072) (hat : (zmc j).1[t]? = some (.aaload)) (hz : zst (zqq K ph) (zmc j) (.aaload :: is) ls st σ = some A) (hck : zck (zmo j) (zpc j) pc len r (.aaload) = true) (hd : decode (zmb j) pc = .ok (r, len)) (C : zAct p l R s m args meth c K j d) (hag : zag ad0 ad n0) (hi : is = zdrop (zmc j).1 (t + 1)) (hpc : is = [] ∨ (zpc j)[t + 1]? = some (pc + len)) (hP : zPic K ph ad σ H) (hS : va_S K.A s.heap H locs) (hL : zLoc K ad σ.2.2.2.2.1 lm (zml j) ls) (hR : zRels K ad σ.2.2.2.2.1 st sm) (hn : n0 ≤ σ.2.2.2.2.1) (hc : c0 ≤ σ.2.2.1) (hs : s0 ≤ σ.2.2.2.1)
    (GA : zGoA p l e R s m args below meth c Q K ph j ad0 n0 c0 s0 A) : W p l e R s m args below meth c H locs (σ.2.2.1 - c0) (σ.2.2.2.1 - s0) Q (F0 m pc lm sm) := by
  obtain ⟨rfl, rfl⟩ := zk_aaload hck
  have hz1 : zstM (zqq K ph) .aaload is ls st σ = some A := hz
  delta zstM at hz1
  dsimp only at hz1
  split at hz1
  · split at hz1
    · cases hz1; exact zs_wald hd GA.1.1 GA.1.2 C hag hi hpc hP hS hL hR hn hc hs GA.2
    · cases hz1; exact zs_aaloadW hd GA.1.1 GA.1.2 C hag hi hpc hP hS hL hR hn hc hs GA.2
    · split at hz1
      · rename_i hph
        cases hz1
        exact zs_aaload hd (Or.inl rfl) (by rw [show ph = true from hph]; rfl) GA.1.1 GA.1.2 C hag hi hpc hP hS hL hR hn hc hs GA.2
      · split at hz1
        · rename_i hin
          cases hz1
          exact zs_aaload hd (Or.inl rfl) (by rw [Bool.or_eq_true]; exact Or.inr hin) GA.1.1 GA.1.2 C hag hi hpc hP hS hL hR hn hc hs GA.2
        · cases hz1
    · split at hz1
      · rename_i hph
        cases hz1
        exact zs_aaload hd (Or.inr rfl) (by rw [show ph = true from hph]; rfl) GA.1.1 GA.1.2 C hag hi hpc hP hS hL hR hn hc hs GA.2
      · split at hz1
        · rename_i hin
          cases hz1
          exact zs_aaload hd (Or.inr rfl) (by rw [Bool.or_eq_true]; exact Or.inr hin) GA.1.1 GA.1.2 C hag hi hpc hP hS hL hR hn hc hs GA.2
        · cases hz1
    · cases hz1
  · cases hz1
theorem zp_aastore  (h0 : 0 < j) (h1 : j < 317) (hLK : K.L ≤ 3072) (hat : (zmc j).1[t]? = some (.aastore)) (hz : zst (zqq K ph) (zmc j) (.aastore :: is) ls st σ = some A) (hck : zck (zmo j) (zpc j) pc len r (.aastore) = true) (hd : decode (zmb j) pc = .ok (r, len)) (C : zAct p l R s m args meth c K j d) (hag : zag ad0 ad n0) (hi : is = zdrop (zmc j).1 (t + 1)) (hpc : is = [] ∨ (zpc j)[t + 1]? = some (pc + len)) (hP : zPic K ph ad σ H) (hS : va_S K.A s.heap H locs) (hL : zLoc K ad σ.2.2.2.2.1 lm (zml j) ls) (hR : zRels K ad σ.2.2.2.2.1 st sm) (hn : n0 ≤ σ.2.2.2.2.1) (hc : c0 ≤ σ.2.2.1) (hs : s0 ≤ σ.2.2.2.1)
    (GA : zGoA p l e R s m args below meth c Q K ph j ad0 n0 c0 s0 A) : W p l e R s m args below meth c H locs (σ.2.2.1 - c0) (σ.2.2.2.1 - s0) Q (F0 m pc lm sm) := by
  obtain ⟨rfl, rfl⟩ := zk_aastore hck
  have hz1 : zstM (zqq K ph) .aastore is ls st σ = some A := hz
  delta zstM at hz1
  dsimp only at hz1
  split at hz1
  · split at hz1
    · split at hz1
      · cases hz1; exact zs_aastoreW hd GA.1.1 GA.1.2.2.1 GA.1.2.2.2 C hag hi hpc hP hS hL hR hn hc hs GA.2
      · cases hz1
    · split at hz1
      · cases hz1
      · rename_i hph
        have hph : ph = false := hph
        subst hph
        split at hz1
        · rename_i hdv
          have hdv := of_decide_eq_true hdv
          cases hz1
          exact zs_aastoreR hd hdv.1 hdv.2 GA.1.1 GA.1.2 C hag hi hpc hP hS hL hR hn hc hs GA.2
        · cases hz1
  · cases hz1
theorem zp_newarray {u : ArrayType} (h0 : 0 < j) (h1 : j < 317) (hLK : K.L ≤ 3072) (hat : (zmc j).1[t]? = some (.newarray u)) (hz : zst (zqq K ph) (zmc j) (.newarray u :: is) ls st σ = some A) (hck : zck (zmo j) (zpc j) pc len r (.newarray u) = true) (hd : decode (zmb j) pc = .ok (r, len)) (C : zAct p l R s m args meth c K j d) (hag : zag ad0 ad n0) (hi : is = zdrop (zmc j).1 (t + 1)) (hpc : is = [] ∨ (zpc j)[t + 1]? = some (pc + len)) (hP : zPic K ph ad σ H) (hS : va_S K.A s.heap H locs) (hL : zLoc K ad σ.2.2.2.2.1 lm (zml j) ls) (hR : zRels K ad σ.2.2.2.2.1 st sm) (hn : n0 ≤ σ.2.2.2.2.1) (hc : c0 ≤ σ.2.2.1) (hs : s0 ≤ σ.2.2.2.1)
    (GA : zGoA p l e R s m args below meth c Q K ph j ad0 n0 c0 s0 A) : W p l e R s m args below meth c H locs (σ.2.2.1 - c0) (σ.2.2.2.1 - s0) Q (F0 m pc lm sm) := by
  have hk1 : zckl (zmo j) len r (.newarray u) = true := hck
  delta zckl at hk1
  dsimp only at hk1
  split at hk1
  rotate_left
  · cases hk1
  rw [Bool.and_eq_true] at hk1
  have e2 := Nat.eq_of_beq_eq_true hk1.2
  have e1 := (of_decide_eq_true hk1.1).symm
  subst e1 e2
  have hz1 : zstN (zqq K ph) (.newarray u) is ls st σ = some A := hz
  delta zstN at hz1
  dsimp only at hz1
  split at hz1
  · cases hz1
  · rename_i hph
    have hph : ph = false := hph
    subst hph
    split at hz1
    · split at hz1
      · rename_i hn0
        have hn0 := of_decide_eq_true hn0
        split at hz1
        · unfold znw at hz1
          split at hz1
          · rename_i hq
            obtain ⟨q1, q2, q3⟩ := of_decide_eq_true hq
            cases hz1
            have q4 := q3.resolve_left (by omega)
            exact zs_newarray hd hn0 (Or.inl ⟨rfl, rfl⟩) q1 q2 q4 (by have := GA.1; dsimp only at this; omega) (by have := GA.2.1; dsimp only at this; omega) C hag hi hpc hP hS hL hR hn hc hs GA.2.2
          · cases hz1
        · unfold znw at hz1
          split at hz1
          · rename_i hq
            obtain ⟨q1, q2, q3⟩ := of_decide_eq_true hq
            cases hz1
            have q4 := q3.resolve_left (by omega)
            exact zs_newarray hd hn0 (Or.inr ⟨rfl, rfl⟩) q1 q2 q4 (by have := GA.1; dsimp only at this; omega) (by have := GA.2.1; dsimp only at this; omega) C hag hi hpc hP hS hL hR hn hc hs GA.2.2
          · cases hz1
        · cases hz1
      · cases hz1
    · cases hz1
theorem zp_anewarray {u : Nat} (h0 : 0 < j) (h1 : j < 317) (hLK : K.L ≤ 3072) (hat : (zmc j).1[t]? = some (.anewarray u)) (hz : zst (zqq K ph) (zmc j) (.anewarray u :: is) ls st σ = some A) (hck : zck (zmo j) (zpc j) pc len r (.anewarray u) = true) (hd : decode (zmb j) pc = .ok (r, len)) (C : zAct p l R s m args meth c K j d) (hag : zag ad0 ad n0) (hi : is = zdrop (zmc j).1 (t + 1)) (hpc : is = [] ∨ (zpc j)[t + 1]? = some (pc + len)) (hP : zPic K ph ad σ H) (hS : va_S K.A s.heap H locs) (hL : zLoc K ad σ.2.2.2.2.1 lm (zml j) ls) (hR : zRels K ad σ.2.2.2.2.1 st sm) (hn : n0 ≤ σ.2.2.2.2.1) (hc : c0 ≤ σ.2.2.1) (hs : s0 ≤ σ.2.2.2.1)
    (GA : zGoA p l e R s m args below meth c Q K ph j ad0 n0 c0 s0 A) : W p l e R s m args below meth c H locs (σ.2.2.1 - c0) (σ.2.2.2.1 - s0) Q (F0 m pc lm sm) := by
  have hk1 : zckl (zmo j) len r (.anewarray u) = true := hck
  delta zckl at hk1
  dsimp only at hk1
  split at hk1
  rotate_left
  · cases hk1
  rw [Bool.and_eq_true] at hk1
  have e2 := Nat.eq_of_beq_eq_true hk1.1
  have hl := hk1.2
  subst e2
  have hz1 : zstN (zqq K ph) (.anewarray u) is ls st σ = some A := hz
  delta zstN at hz1
  dsimp only at hz1
  split at hz1
  · cases hz1
  · rename_i hph
    have hph : ph = false := hph
    subst hph
    split at hz1
    · split at hz1
      · rename_i hn0
        have hn0 := of_decide_eq_true hn0
        unfold znw at hz1
        split at hz1
        · rename_i hq
          obtain ⟨q1, q2, q3⟩ := of_decide_eq_true hq
          cases hz1
          have q4 := q3.resolve_left (by omega)
          exact zs_anewarray hd hl hn0.1 hn0.2 q1 q2 q4 (by have := GA.1; dsimp only at this; omega) (by have := GA.2.1; dsimp only at this; omega) C hag hi hpc hP hS hL hR hn hc hs GA.2.2
        · cases hz1
      · cases hz1
    · cases hz1
theorem zp_new {k : Nat} (h0 : 0 < j) (h1 : j < 317) (hLK : K.L ≤ 3072) (hat : (zmc j).1[t]? = some (.new k)) (hz : zst (zqq K ph) (zmc j) (.new k :: is) ls st σ = some A) (hck : zck (zmo j) (zpc j) pc len r (.new k) = true) (hd : decode (zmb j) pc = .ok (r, len)) (C : zAct p l R s m args meth c K j d) (hag : zag ad0 ad n0) (hi : is = zdrop (zmc j).1 (t + 1)) (hpc : is = [] ∨ (zpc j)[t + 1]? = some (pc + len)) (hP : zPic K ph ad σ H) (hS : va_S K.A s.heap H locs) (hL : zLoc K ad σ.2.2.2.2.1 lm (zml j) ls) (hR : zRels K ad σ.2.2.2.2.1 st sm) (hn : n0 ≤ σ.2.2.2.2.1) (hc : c0 ≤ σ.2.2.1) (hs : s0 ≤ σ.2.2.2.1)
    (GA : zGoA p l e R s m args below meth c Q K ph j ad0 n0 c0 s0 A) : W p l e R s m args below meth c H locs (σ.2.2.1 - c0) (σ.2.2.2.1 - s0) Q (F0 m pc lm sm) := by
  have hk1 : zckl (zmo j) len r (.new k) = true := hck
  delta zckl at hk1
  dsimp only at hk1
  split at hk1
  rotate_left
  · cases hk1
  rw [Bool.and_eq_true, Bool.or_eq_true] at hk1
  have e2 := Nat.eq_of_beq_eq_true hk1.1
  subst e2
  have hz1 : zstN (zqq K ph) (.new k) is ls st σ = some A := hz
  delta zstN at hz1
  dsimp only at hz1
  split at hz1
  · split at hz1
    · cases hz1
      exact GA.elim
    · cases hz1
  · rename_i hb
    split at hz1
    · cases hz1
    · rename_i hph
      have hph : ph = false := hph
      subst hph
      split at hz1
      · rename_i hk11
        have hk11 : k < 11 := Nat.le_of_ble_eq_true hk11
        have hl := hk1.2.resolve_left (fun z => by have := Nat.le_of_ble_eq_true z; omega)
        unfold znw at hz1
        split at hz1
        · rename_i hq
          obtain ⟨q1, q2, q3⟩ := of_decide_eq_true hq
          cases hz1
          exact zs_new hd hl hk11 q1 q2 (by have := GA.1; dsimp only at this; omega) (by have := GA.2.1; dsimp only at this; omega) C hag hi hpc hP hS hL hR hn hc hs GA.2.2
        · cases hz1
      · cases hz1
theorem zp_invokespecial {k : Nat} (h0 : 0 < j) (h1 : j < 317) (hLK : K.L ≤ 3072) (hat : (zmc j).1[t]? = some (.invokespecial k)) (hz : zst (zqq K ph) (zmc j) (.invokespecial k :: is) ls st σ = some A) (hck : zck (zmo j) (zpc j) pc len r (.invokespecial k) = true) (hd : decode (zmb j) pc = .ok (r, len)) (C : zAct p l R s m args meth c K j d) (hag : zag ad0 ad n0) (hi : is = zdrop (zmc j).1 (t + 1)) (hpc : is = [] ∨ (zpc j)[t + 1]? = some (pc + len)) (hP : zPic K ph ad σ H) (hS : va_S K.A s.heap H locs) (hL : zLoc K ad σ.2.2.2.2.1 lm (zml j) ls) (hR : zRels K ad σ.2.2.2.2.1 st sm) (hn : n0 ≤ σ.2.2.2.2.1) (hc : c0 ≤ σ.2.2.1) (hs : s0 ≤ σ.2.2.2.1)
    (GA : zGoA p l e R s m args below meth c Q K ph j ad0 n0 c0 s0 A) : W p l e R s m args below meth c H locs (σ.2.2.1 - c0) (σ.2.2.2.1 - s0) Q (F0 m pc lm sm) := by
  have hk1 : zckl (zmo j) len r (.invokespecial k) = true := hck
  delta zckl at hk1
  dsimp only at hk1
  split at hk1
  rotate_left
  · cases hk1
  rw [Bool.and_eq_true] at hk1
  have e2 := Nat.eq_of_beq_eq_true hk1.1
  have hl := hk1.2
  subst e2
  have hz1 : zstN (zqq K ph) (.invokespecial k) is ls st σ = some A := hz
  delta zstN at hz1
  dsimp only at hz1
  split at hz1
  · split at hz1
    · rename_i hu
      cases hz1
      exact zs_objInit hd hl (Nat.le_of_ble_eq_true hu) (Nat.zero_le _) C hag hi hpc hP hS hL hR hn hc hs GA.2.2
    · cases hz1
  · cases hz1
theorem zp_invokedynamic {k : Nat} (h0 : 0 < j) (h1 : j < 317) (hLK : K.L ≤ 3072) (hat : (zmc j).1[t]? = some (.invokedynamic k)) (hz : zst (zqq K ph) (zmc j) (.invokedynamic k :: is) ls st σ = some A) (hck : zck (zmo j) (zpc j) pc len r (.invokedynamic k) = true) (hd : decode (zmb j) pc = .ok (r, len)) (C : zAct p l R s m args meth c K j d) (hag : zag ad0 ad n0) (hi : is = zdrop (zmc j).1 (t + 1)) (hpc : is = [] ∨ (zpc j)[t + 1]? = some (pc + len)) (hP : zPic K ph ad σ H) (hS : va_S K.A s.heap H locs) (hL : zLoc K ad σ.2.2.2.2.1 lm (zml j) ls) (hR : zRels K ad σ.2.2.2.2.1 st sm) (hn : n0 ≤ σ.2.2.2.2.1) (hc : c0 ≤ σ.2.2.1) (hs : s0 ≤ σ.2.2.2.1)
    (GA : zGoA p l e R s m args below meth c Q K ph j ad0 n0 c0 s0 A) : W p l e R s m args below meth c H locs (σ.2.2.1 - c0) (σ.2.2.2.1 - s0) Q (F0 m pc lm sm) := by
  have hk1 : zckl (zmo j) len r (.invokedynamic k) = true := hck
  delta zckl at hk1
  dsimp only at hk1
  split at hk1
  rotate_left
  · cases hk1
  rw [Bool.and_eq_true] at hk1
  have e2 := Nat.eq_of_beq_eq_true hk1.1
  have hl := hk1.2
  subst e2
  have hz1 : zstN (zqq K ph) (.invokedynamic k) is ls st σ = some A := hz
  delta zstN at hz1
  dsimp only at hz1
  split at hz1
  · cases hz1
    exact zs_copy (b2 := 0) hd hl GA.1.1 GA.1.2.1 GA.1.2.2.1 GA.1.2.2.2.1 GA.1.2.2.2.2 C (Nat.zero_le _) hag hi hpc hP hS hL hR hn hc hs GA.2
  · cases hz1
theorem zp_ifnull {u : Int} (h0 : 0 < j) (h1 : j < 317) (hLK : K.L ≤ 3072) (hat : (zmc j).1[t]? = some (.ifnull u)) (hz : zst (zqq K ph) (zmc j) (.ifnull u :: is) ls st σ = some A) (hck : zck (zmo j) (zpc j) pc len r (.ifnull u) = true) (hd : decode (zmb j) pc = .ok (r, len)) (C : zAct p l R s m args meth c K j d) (hag : zag ad0 ad n0) (hi : is = zdrop (zmc j).1 (t + 1)) (hpc : is = [] ∨ (zpc j)[t + 1]? = some (pc + len)) (hP : zPic K ph ad σ H) (hS : va_S K.A s.heap H locs) (hL : zLoc K ad σ.2.2.2.2.1 lm (zml j) ls) (hR : zRels K ad σ.2.2.2.2.1 st sm) (hn : n0 ≤ σ.2.2.2.2.1) (hc : c0 ≤ σ.2.2.1) (hs : s0 ≤ σ.2.2.2.1)
    (GA : zGoA p l e R s m args below meth c Q K ph j ad0 n0 c0 s0 A) : W p l e R s m args below meth c H locs (σ.2.2.1 - c0) (σ.2.2.2.1 - s0) Q (F0 m pc lm sm) := by
  obtain ⟨f, rfl, hj, rfl⟩ := zk_ifnull hck
  have hz1 : zstI (zmc j) (.ifnull u) is ls st σ = some A := hz
  delta zstI at hz1
  dsimp only at hz1
  split at hz1
  · split at hz1
    · cases hz1
      exact zs_ifnull4 hd hj C hag hP hS hL hR hn hc hs GA.2.2
    · cases hz1
      exact zs_ifnull5 hd hj hi hpc C hag hP hS hL hR hn hc hs GA.1 GA.2
    · split at hz1
      · rename_i hu
        cases hz1
        exact zs_ifnull10 hd (Nat.le_of_ble_eq_true hu) hi hpc C hag hP hS hL hR hn hc hs GA.2.2
      · cases hz1
  · cases hz1
end ZP
