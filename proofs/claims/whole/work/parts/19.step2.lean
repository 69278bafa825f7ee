/-! ## the steps of locals, constants, memory, new objects -/
def zlci (j : Nat) (i : Instr) : Bool := match i with
  | .istore k => Nat.blt k (zml j)
  | .astore k => Nat.blt k (zml j)
  | .iinc k _ => Nat.blt k (zml j)
  | .lstore k => Nat.blt (k + 1) (zml j)
  | _ => true
def zlcc (j : Nat) : Bool := (zmc j).1.all (zlci j)
theorem zlcc_1 : (List.range 316).all (fun i => zlcc (1 + i)) = true := by decide +kernel
theorem zlcc_ok {j t : Nat} {i : Instr} (h0 : 0 < j) (h : j < 317) (hi : (zmc j).1[t]? = some i) : zlci j i = true := by
  have h1 := List.all_eq_true.mp zlcc_1 (j - 1) (List.mem_range.mpr (by omega))
  rw [show 1 + (j - 1) = j by omega] at h1
  exact List.all_eq_true.mp h1 i (List.mem_of_getElem? hi)
section ZP
variable {p : Program} {l : Launch} {e : Env} {R : Room} {s : State} {m : MethodId} {args : Array Value} {below : List Frame} {meth : Method} {c : Code} {Q : State → Prop} {K : zCx} {ph : Bool} {j d : Nat} {ad0 : Nat → Nat} {n0 c0 s0 : Nat}
variable {is : zL} {ls st : List zV} {σ : zS} {ad : Nat → Nat} {H : Heap} {locs : List Loc} {lm : Array Slot} {sm : List Value} {pc t len : Nat} {r : Instr} {A : zA}
theorem zp_iload {k : Nat} (h0 : 0 < j) (h1 : j < 317) (hLK : K.L ≤ 3072) (hat : (zmc j).1[t]? = some (.iload k)) (hz : zst (zqq K ph) (zmc j) (.iload k :: is) ls st σ = some A) (hck : zck (zmo j) (zpc j) pc len r (.iload k) = true) (hd : decode (zmb j) pc = .ok (r, len)) (C : zAct p l R s m args meth c K j d) (hag : zag ad0 ad n0) (hi : is = zdrop (zmc j).1 (t + 1)) (hpc : is = [] ∨ (zpc j)[t + 1]? = some (pc + len)) (hP : zPic K ph ad σ H) (hS : va_S K.A s.heap H locs) (hL : zLoc K ad σ.2.2.2.2.1 lm (zml j) ls) (hR : zRels K ad σ.2.2.2.2.1 st sm) (hn : n0 ≤ σ.2.2.2.2.1) (hc : c0 ≤ σ.2.2.1) (hs : s0 ≤ σ.2.2.2.1)
    (GA : zGoA p l e R s m args below meth c Q K ph j ad0 n0 c0 s0 A) : W p l e R s m args below meth c H locs (σ.2.2.1 - c0) (σ.2.2.2.1 - s0) Q (F0 m pc lm sm) := by
  delta zst at hz
  dsimp only at hz
  split at hz
  · rename_i hg
    cases hz
    rcases zk_iload hck with ⟨rfl, rfl⟩ | ⟨f, rfl, hf, rfl⟩
    · exact zs_iload hd hg C hag hi hpc hP hS hL hR hn hc hs GA.2.2
    · exact zs_iload_n hd hg hf C hag hi hpc hP hS hL hR hn hc hs GA.2.2
  · cases hz
theorem zp_lload {k : Nat} (h0 : 0 < j) (h1 : j < 317) (hLK : K.L ≤ 3072) (hat : (zmc j).1[t]? = some (.lload k)) (hz : zst (zqq K ph) (zmc j) (.lload k :: is) ls st σ = some A) (hck : zck (zmo j) (zpc j) pc len r (.lload k) = true) (hd : decode (zmb j) pc = .ok (r, len)) (C : zAct p l R s m args meth c K j d) (hag : zag ad0 ad n0) (hi : is = zdrop (zmc j).1 (t + 1)) (hpc : is = [] ∨ (zpc j)[t + 1]? = some (pc + len)) (hP : zPic K ph ad σ H) (hS : va_S K.A s.heap H locs) (hL : zLoc K ad σ.2.2.2.2.1 lm (zml j) ls) (hR : zRels K ad σ.2.2.2.2.1 st sm) (hn : n0 ≤ σ.2.2.2.2.1) (hc : c0 ≤ σ.2.2.1) (hs : s0 ≤ σ.2.2.2.1)
    (GA : zGoA p l e R s m args below meth c Q K ph j ad0 n0 c0 s0 A) : W p l e R s m args below meth c H locs (σ.2.2.1 - c0) (σ.2.2.2.1 - s0) Q (F0 m pc lm sm) := by
  delta zst at hz
  dsimp only at hz
  split at hz
  · rename_i hg
    split at hz
    · rename_i hg2
      cases hz
      rcases zk_lload hck with ⟨rfl, rfl⟩ | ⟨f, rfl, hf, rfl⟩
      · exact zs_lload hd hg hg2 C hag hi hpc hP hS hL hR hn hc hs GA.2.2
      · exact zs_lload_n hd hg hg2 hf C hag hi hpc hP hS hL hR hn hc hs GA.2.2
    · cases hz
  · cases hz
theorem zp_aload {k : Nat} (h0 : 0 < j) (h1 : j < 317) (hLK : K.L ≤ 3072) (hat : (zmc j).1[t]? = some (.aload k)) (hz : zst (zqq K ph) (zmc j) (.aload k :: is) ls st σ = some A) (hck : zck (zmo j) (zpc j) pc len r (.aload k) = true) (hd : decode (zmb j) pc = .ok (r, len)) (C : zAct p l R s m args meth c K j d) (hag : zag ad0 ad n0) (hi : is = zdrop (zmc j).1 (t + 1)) (hpc : is = [] ∨ (zpc j)[t + 1]? = some (pc + len)) (hP : zPic K ph ad σ H) (hS : va_S K.A s.heap H locs) (hL : zLoc K ad σ.2.2.2.2.1 lm (zml j) ls) (hR : zRels K ad σ.2.2.2.2.1 st sm) (hn : n0 ≤ σ.2.2.2.2.1) (hc : c0 ≤ σ.2.2.1) (hs : s0 ≤ σ.2.2.2.1)
    (GA : zGoA p l e R s m args below meth c Q K ph j ad0 n0 c0 s0 A) : W p l e R s m args below meth c H locs (σ.2.2.1 - c0) (σ.2.2.2.1 - s0) Q (F0 m pc lm sm) := by
  delta zst at hz
  dsimp only at hz
  split at hz
  · rename_i hu
    cases hz
    have hg : zget ls k = ((zget ls k).1, (zget ls k).2.1, (zget ls k).2.2) := rfl
    rcases zk_aload hck with ⟨rfl, rfl⟩ | ⟨f, rfl, hf, rfl⟩
    · exact zs_aload hd hg (Nat.le_of_ble_eq_true hu) C hag hi hpc hP hS hL hR hn hc hs GA.2.2
    · exact zs_aload_n hd hg (Nat.le_of_ble_eq_true hu) hf C hag hi hpc hP hS hL hR hn hc hs GA.2.2
  · cases hz
theorem zp_istore {k : Nat} (h0 : 0 < j) (h1 : j < 317) (hLK : K.L ≤ 3072) (hat : (zmc j).1[t]? = some (.istore k)) (hz : zst (zqq K ph) (zmc j) (.istore k :: is) ls st σ = some A) (hck : zck (zmo j) (zpc j) pc len r (.istore k) = true) (hd : decode (zmb j) pc = .ok (r, len)) (C : zAct p l R s m args meth c K j d) (hag : zag ad0 ad n0) (hi : is = zdrop (zmc j).1 (t + 1)) (hpc : is = [] ∨ (zpc j)[t + 1]? = some (pc + len)) (hP : zPic K ph ad σ H) (hS : va_S K.A s.heap H locs) (hL : zLoc K ad σ.2.2.2.2.1 lm (zml j) ls) (hR : zRels K ad σ.2.2.2.2.1 st sm) (hn : n0 ≤ σ.2.2.2.2.1) (hc : c0 ≤ σ.2.2.1) (hs : s0 ≤ σ.2.2.2.1)
    (GA : zGoA p l e R s m args below meth c Q K ph j ad0 n0 c0 s0 A) : W p l e R s m args below meth c H locs (σ.2.2.1 - c0) (σ.2.2.2.1 - s0) Q (F0 m pc lm sm) := by
  delta zst at hz
  dsimp only at hz
  have hk : k < zml j := Nat.le_of_ble_eq_true (zlcc_ok h0 h1 hat)
  split at hz
  · cases hz
    rcases zk_istore hck with ⟨rfl, rfl⟩ | ⟨f, rfl, hf, rfl⟩
    · exact zs_istore hd hk C hag hi hpc hP hS hL hR hn hc hs GA.2.2
    · exact zs_istore_n hd hk hf C hag hi hpc hP hS hL hR hn hc hs GA.2.2
  · cases hz
theorem zp_lstore {k : Nat} (h0 : 0 < j) (h1 : j < 317) (hLK : K.L ≤ 3072) (hat : (zmc j).1[t]? = some (.lstore k)) (hz : zst (zqq K ph) (zmc j) (.lstore k :: is) ls st σ = some A) (hck : zck (zmo j) (zpc j) pc len r (.lstore k) = true) (hd : decode (zmb j) pc = .ok (r, len)) (C : zAct p l R s m args meth c K j d) (hag : zag ad0 ad n0) (hi : is = zdrop (zmc j).1 (t + 1)) (hpc : is = [] ∨ (zpc j)[t + 1]? = some (pc + len)) (hP : zPic K ph ad σ H) (hS : va_S K.A s.heap H locs) (hL : zLoc K ad σ.2.2.2.2.1 lm (zml j) ls) (hR : zRels K ad σ.2.2.2.2.1 st sm) (hn : n0 ≤ σ.2.2.2.2.1) (hc : c0 ≤ σ.2.2.1) (hs : s0 ≤ σ.2.2.2.1)
    (GA : zGoA p l e R s m args below meth c Q K ph j ad0 n0 c0 s0 A) : W p l e R s m args below meth c H locs (σ.2.2.1 - c0) (σ.2.2.2.1 - s0) Q (F0 m pc lm sm) := by
  delta zst at hz
  dsimp only at hz
  have hk : k + 1 < zml j := Nat.le_of_ble_eq_true (zlcc_ok h0 h1 hat)
  split at hz
  · cases hz
    rcases zk_lstore hck with ⟨rfl, rfl⟩ | ⟨f, rfl, hf, rfl⟩
    · exact zs_lstore hd hk C hag hi hpc hP hS hL hR hn hc hs GA.2.2
    · exact zs_lstore_n hd hk hf C hag hi hpc hP hS hL hR hn hc hs GA.2.2
  · cases hz
theorem zp_astore {k : Nat} (h0 : 0 < j) (h1 : j < 317) (hLK : K.L ≤ 3072) (hat : (zmc j).1[t]? = some (.astore k)) (hz : zst (zqq K ph) (zmc j) (.astore k :: is) ls st σ = some A) (hck : zck (zmo j) (zpc j) pc len r (.astore k) = true) (hd : decode (zmb j) pc = .ok (r, len)) (C : zAct p l R s m args meth c K j d) (hag : zag ad0 ad n0) (hi : is = zdrop (zmc j).1 (t + 1)) (hpc : is = [] ∨ (zpc j)[t + 1]? = some (pc + len)) (hP : zPic K ph ad σ H) (hS : va_S K.A s.heap H locs) (hL : zLoc K ad σ.2.2.2.2.1 lm (zml j) ls) (hR : zRels K ad σ.2.2.2.2.1 st sm) (hn : n0 ≤ σ.2.2.2.2.1) (hc : c0 ≤ σ.2.2.1) (hs : s0 ≤ σ.2.2.2.1)
    (GA : zGoA p l e R s m args below meth c Q K ph j ad0 n0 c0 s0 A) : W p l e R s m args below meth c H locs (σ.2.2.1 - c0) (σ.2.2.2.1 - s0) Q (F0 m pc lm sm) := by
  delta zst at hz
  dsimp only at hz
  have hk : k < zml j := Nat.le_of_ble_eq_true (zlcc_ok h0 h1 hat)
  split at hz
  · split at hz
    · rename_i hu
      cases hz
      rcases zk_astore hck with ⟨rfl, rfl⟩ | ⟨f, rfl, hf, rfl⟩
      · exact zs_astore hd hk (Nat.le_of_ble_eq_true hu) C hag hi hpc hP hS hL hR hn hc hs GA.2.2
      · exact zs_astore_n hd hk (Nat.le_of_ble_eq_true hu) hf C hag hi hpc hP hS hL hR hn hc hs GA.2.2
    · cases hz
  · cases hz
theorem zp_iinc {k : Nat} {u : Int} (h0 : 0 < j) (h1 : j < 317) (hLK : K.L ≤ 3072) (hat : (zmc j).1[t]? = some (.iinc k u)) (hz : zst (zqq K ph) (zmc j) (.iinc k u :: is) ls st σ = some A) (hck : zck (zmo j) (zpc j) pc len r (.iinc k u) = true) (hd : decode (zmb j) pc = .ok (r, len)) (C : zAct p l R s m args meth c K j d) (hag : zag ad0 ad n0) (hi : is = zdrop (zmc j).1 (t + 1)) (hpc : is = [] ∨ (zpc j)[t + 1]? = some (pc + len)) (hP : zPic K ph ad σ H) (hS : va_S K.A s.heap H locs) (hL : zLoc K ad σ.2.2.2.2.1 lm (zml j) ls) (hR : zRels K ad σ.2.2.2.2.1 st sm) (hn : n0 ≤ σ.2.2.2.2.1) (hc : c0 ≤ σ.2.2.1) (hs : s0 ≤ σ.2.2.2.1)
    (GA : zGoA p l e R s m args below meth c Q K ph j ad0 n0 c0 s0 A) : W p l e R s m args below meth c H locs (σ.2.2.1 - c0) (σ.2.2.2.1 - s0) Q (F0 m pc lm sm) := by
  delta zst at hz
  dsimp only at hz
  have hk : k < zml j := Nat.le_of_ble_eq_true (zlcc_ok h0 h1 hat)
  obtain ⟨rfl, rfl⟩ := zk_iinc hck
  split at hz
  · rename_i hg
    cases hz
    exact zs_iinc hd hk hg C hag hi hpc hP hS hL hR hn hc hs GA.2.2
  · cases hz
theorem zp_iconst {k : Int} (h0 : 0 < j) (h1 : j < 317) (hLK : K.L ≤ 3072) (hat : (zmc j).1[t]? = some (.iconst k)) (hz : zst (zqq K ph) (zmc j) (.iconst k :: is) ls st σ = some A) (hck : zck (zmo j) (zpc j) pc len r (.iconst k) = true) (hd : decode (zmb j) pc = .ok (r, len)) (C : zAct p l R s m args meth c K j d) (hag : zag ad0 ad n0) (hi : is = zdrop (zmc j).1 (t + 1)) (hpc : is = [] ∨ (zpc j)[t + 1]? = some (pc + len)) (hP : zPic K ph ad σ H) (hS : va_S K.A s.heap H locs) (hL : zLoc K ad σ.2.2.2.2.1 lm (zml j) ls) (hR : zRels K ad σ.2.2.2.2.1 st sm) (hn : n0 ≤ σ.2.2.2.2.1) (hc : c0 ≤ σ.2.2.1) (hs : s0 ≤ σ.2.2.2.1)
    (GA : zGoA p l e R s m args below meth c Q K ph j ad0 n0 c0 s0 A) : W p l e R s m args below meth c H locs (σ.2.2.1 - c0) (σ.2.2.2.1 - s0) Q (F0 m pc lm sm) := by
  have hz1 : zgo is ls ((0, k, 0) :: st) σ = some A := hz
  cases hz1
  have hk1 : zcki (zmo j) len r k = true := hck
  delta zcki at hk1
  rw [Bool.and_eq_true] at hk1
  obtain ⟨hk2, hk3⟩ := hk1
  have hk : zI32 k := of_decide_eq_true (p := -2147483648 ≤ k ∧ k < 2147483648) hk2
  have hw : ∀ i : Nat, zKI.any (fun e => Nat.beq e.1 (zmo j) && Nat.beq e.2.1 i && decide (e.2.2.1 = k)) = true → Cond.constant (zcn (zmo j)) i (Int32.ofInt k) ∈ lw_tbl ∧ goodWord (Cond.constant (zcn (zmo j)) i (Int32.ofInt k)) = true := by
    intro i hany
    obtain ⟨q, hq, hq1⟩ := List.any_eq_true.mp hany
    rw [Bool.and_eq_true, Bool.and_eq_true] at hq1
    have h3 := zgw_ok (List.all_eq_true.mp zKI_ok q hq)
    rw [Nat.eq_of_beq_eq_true hq1.1.1, Nat.eq_of_beq_eq_true hq1.1.2, of_decide_eq_true hq1.2] at h3
    exact h3
  split at hk3
  · rw [Bool.and_eq_true] at hk3
    have e1 := of_decide_eq_true hk3.1
    have e2 := Nat.eq_of_beq_eq_true hk3.2
    subst e1 e2
    exact zs_iconst hd hk C hag hi hpc hP hS hL hR hn hc hs GA.2.2
  · rw [Bool.and_eq_true] at hk3
    have e1 := of_decide_eq_true hk3.1
    have e2 := Nat.eq_of_beq_eq_true hk3.2
    obtain ⟨rfl, e1⟩ := e1
    subst e2
    exact zs_bipush hd e1 C hag hi hpc hP hS hL hR hn hc hs GA.2.2
  · rw [Bool.and_eq_true] at hk3
    have e1 := of_decide_eq_true hk3.1
    have e2 := Nat.eq_of_beq_eq_true hk3.2
    obtain ⟨rfl, e1⟩ := e1
    subst e2
    exact zs_sipush hd e1 C hag hi hpc hP hS hL hR hn hc hs GA.2.2
  · rw [Bool.and_eq_true] at hk3
    have e2 := Nat.eq_of_beq_eq_true hk3.1
    subst e2
    exact zs_ldcI hd hk (hw _ hk3.2) C hag hi hpc hP hS hL hR hn hc hs GA.2.2
  · rw [Bool.and_eq_true] at hk3
    have e2 := Nat.eq_of_beq_eq_true hk3.1
    subst e2
    exact zs_ldcIw hd hk (hw _ hk3.2) C hag hi hpc hP hS hL hR hn hc hs GA.2.2
  · cases hk3
theorem zp_sipush {k : Int} (h0 : 0 < j) (h1 : j < 317) (hLK : K.L ≤ 3072) (hat : (zmc j).1[t]? = some (.sipush k)) (hz : zst (zqq K ph) (zmc j) (.sipush k :: is) ls st σ = some A) (hck : zck (zmo j) (zpc j) pc len r (.sipush k) = true) (hd : decode (zmb j) pc = .ok (r, len)) (C : zAct p l R s m args meth c K j d) (hag : zag ad0 ad n0) (hi : is = zdrop (zmc j).1 (t + 1)) (hpc : is = [] ∨ (zpc j)[t + 1]? = some (pc + len)) (hP : zPic K ph ad σ H) (hS : va_S K.A s.heap H locs) (hL : zLoc K ad σ.2.2.2.2.1 lm (zml j) ls) (hR : zRels K ad σ.2.2.2.2.1 st sm) (hn : n0 ≤ σ.2.2.2.2.1) (hc : c0 ≤ σ.2.2.1) (hs : s0 ≤ σ.2.2.2.1)
    (GA : zGoA p l e R s m args below meth c Q K ph j ad0 n0 c0 s0 A) : W p l e R s m args below meth c H locs (σ.2.2.1 - c0) (σ.2.2.2.1 - s0) Q (F0 m pc lm sm) := by
  have hz1 : zgo is ls ((1, k, 0) :: st) σ = some A := hz
  cases hz1
  have hk1 : zckv (zmo j) len r (.sipush k) = true := hck
  delta zckv at hk1
  dsimp only at hk1
  split at hk1
  · rw [Bool.and_eq_true] at hk1
    have e1 := of_decide_eq_true hk1.1
    have e2 := Nat.eq_of_beq_eq_true hk1.2
    subst e1 e2
    exact zs_lconst hd C hag hi hpc hP hS hL hR hn hc hs GA.2.2
  · rw [Bool.and_eq_true, Bool.and_eq_true] at hk1
    have e2 := Nat.eq_of_beq_eq_true hk1.1.1
    subst e2
    obtain ⟨q, hq, hq1⟩ := List.any_eq_true.mp hk1.2
    rw [Bool.and_eq_true, Bool.and_eq_true] at hq1
    have h3 := zgw_ok (List.all_eq_true.mp zKJ_ok q hq)
    rw [Nat.eq_of_beq_eq_true hq1.1.1, Nat.eq_of_beq_eq_true hq1.1.2, of_decide_eq_true hq1.2] at h3
    exact zs_ldc2 hd (of_decide_eq_true (p := -9223372036854775808 ≤ k ∧ k < 9223372036854775808) hk1.1.2) h3 C hag hi hpc hP hS hL hR hn hc hs GA.2.2
  · cases hk1
theorem zp_getstatic {k : Nat} (h0 : 0 < j) (h1 : j < 317) (hLK : K.L ≤ 3072) (hat : (zmc j).1[t]? = some (.getstatic k)) (hz : zst (zqq K ph) (zmc j) (.getstatic k :: is) ls st σ = some A) (hck : zck (zmo j) (zpc j) pc len r (.getstatic k) = true) (hd : decode (zmb j) pc = .ok (r, len)) (C : zAct p l R s m args meth c K j d) (hag : zag ad0 ad n0) (hi : is = zdrop (zmc j).1 (t + 1)) (hpc : is = [] ∨ (zpc j)[t + 1]? = some (pc + len)) (hP : zPic K ph ad σ H) (hS : va_S K.A s.heap H locs) (hL : zLoc K ad σ.2.2.2.2.1 lm (zml j) ls) (hR : zRels K ad σ.2.2.2.2.1 st sm) (hn : n0 ≤ σ.2.2.2.2.1) (hc : c0 ≤ σ.2.2.1) (hs : s0 ≤ σ.2.2.2.1)
    (GA : zGoA p l e R s m args below meth c Q K ph j ad0 n0 c0 s0 A) : W p l e R s m args below meth c H locs (σ.2.2.1 - c0) (σ.2.2.2.1 - s0) Q (F0 m pc lm sm) := by
  have hk1 : zckl (zmo j) len r (.getstatic k) = true := hck
  delta zckl at hk1
  dsimp only at hk1
  split at hk1
  · rw [Bool.and_eq_true] at hk1
    have e2 := Nat.eq_of_beq_eq_true hk1.1
    subst e2
    obtain ⟨-, hkr⟩ := zGL_any hk1.2
    have hz1 : zstM (zqq K ph) (.getstatic k) is ls st σ = some A := hz
    have hz2 : zgo is ls (zgsv k :: st) σ = some A := by
      rcases hkr with hkr | hkr
      · rw [← hz1]
        unfold zgsv
        delta zstM
        dsimp only
        rw [show Nat.ble 100 k = false by rw [Bool.eq_false_iff, ne_eq, Nat.ble_eq]; omega]
      · have : k = 100 ∨ k = 101 ∨ k = 102 := by omega
        rcases this with rfl | rfl | rfl <;> exact hz1
    cases hz2
    exact zs_getstatic hd hk1.2 C hag hi hpc hP hS hL hR hn hc hs GA.2.2
  · cases hk1
theorem zp_ldc {k : Nat} (h0 : 0 < j) (h1 : j < 317) (hLK : K.L ≤ 3072) (hat : (zmc j).1[t]? = some (.ldc k)) (hz : zst (zqq K ph) (zmc j) (.ldc k :: is) ls st σ = some A) (hck : zck (zmo j) (zpc j) pc len r (.ldc k) = true) (hd : decode (zmb j) pc = .ok (r, len)) (C : zAct p l R s m args meth c K j d) (hag : zag ad0 ad n0) (hi : is = zdrop (zmc j).1 (t + 1)) (hpc : is = [] ∨ (zpc j)[t + 1]? = some (pc + len)) (hP : zPic K ph ad σ H) (hS : va_S K.A s.heap H locs) (hL : zLoc K ad σ.2.2.2.2.1 lm (zml j) ls) (hR : zRels K ad σ.2.2.2.2.1 st sm) (hn : n0 ≤ σ.2.2.2.2.1) (hc : c0 ≤ σ.2.2.1) (hs : s0 ≤ σ.2.2.2.1)
    (GA : zGoA p l e R s m args below meth c Q K ph j ad0 n0 c0 s0 A) : W p l e R s m args below meth c H locs (σ.2.2.1 - c0) (σ.2.2.2.1 - s0) Q (F0 m pc lm sm) := by
  have hz1 : zstM (zqq K ph) (.ldc k) is ls st σ = some A := hz
  delta zstM at hz1
  dsimp only at hz1
  split at hz1
  · rename_i hk31
    cases hz1
    have hk31 : k < 31 := Nat.le_of_ble_eq_true hk31
    have hn31 : ¬ Nat.ble 31 k = true := fun z => by have := Nat.le_of_ble_eq_true z; omega
    have hk1 : zckl (zmo j) len r (.ldc k) = true := hck
    delta zckl at hk1
    dsimp only at hk1
    split at hk1
    · rw [Bool.and_eq_true, Bool.or_eq_true] at hk1
      have e2 := Nat.eq_of_beq_eq_true hk1.1
      subst e2
      exact zs_ldcS (Or.inl ⟨hd, rfl⟩) hk31 (hk1.2.resolve_left hn31) C hag hi hpc hP hS hL hR hn hc hs GA.2.2
    · rw [Bool.and_eq_true, Bool.or_eq_true] at hk1
      have e2 := Nat.eq_of_beq_eq_true hk1.1
      subst e2
      exact zs_ldcS (Or.inr ⟨hd, rfl⟩) hk31 (hk1.2.resolve_left hn31) C hag hi hpc hP hS hL hR hn hc hs GA.2.2
    · cases hk1
  · cases hz1
theorem zp_arraylength  (h0 : 0 < j) (h1 : j < 317) (hLK : K.L ≤ 3072) (hat : (zmc j).1[t]? = some (.arraylength)) (hz : zst (zqq K ph) (zmc j) (.arraylength :: is) ls st σ = some A) (hck : zck (zmo j) (zpc j) pc len r (.arraylength) = true) (hd : decode (zmb j) pc = .ok (r, len)) (C : zAct p l R s m args meth c K j d) (hag : zag ad0 ad n0) (hi : is = zdrop (zmc j).1 (t + 1)) (hpc : is = [] ∨ (zpc j)[t + 1]? = some (pc + len)) (hP : zPic K ph ad σ H) (hS : va_S K.A s.heap H locs) (hL : zLoc K ad σ.2.2.2.2.1 lm (zml j) ls) (hR : zRels K ad σ.2.2.2.2.1 st sm) (hn : n0 ≤ σ.2.2.2.2.1) (hc : c0 ≤ σ.2.2.1) (hs : s0 ≤ σ.2.2.2.1)
    (GA : zGoA p l e R s m args below meth c Q K ph j ad0 n0 c0 s0 A) : W p l e R s m args below meth c H locs (σ.2.2.1 - c0) (σ.2.2.2.1 - s0) Q (F0 m pc lm sm) := by
  obtain ⟨rfl, rfl⟩ := zk_arraylength hck
  have hz1 : zstM (zqq K ph) .arraylength is ls st σ = some A := hz
  delta zstM at hz1
  dsimp only at hz1
  split at hz1
  · split at hz1
    · cases hz1; exact zs_wlen hd C hag hi hpc hP hS hL hR hn hc hs GA.2.2
    · cases hz1; exact zs_slen hd hLK C hag hi hpc hP hS hL hR hn hc hs GA.2.2
    · cases hz1; exact zs_arraylength hd (Or.inl rfl) C hag hi hpc hP hS hL hR hn hc hs GA.2.2
    · cases hz1; exact zs_arraylength hd (Or.inr (Or.inl rfl)) C hag hi hpc hP hS hL hR hn hc hs GA.2.2
    · cases hz1; exact zs_arraylength hd (Or.inr (Or.inr (Or.inl rfl))) C hag hi hpc hP hS hL hR hn hc hs GA.2.2
    · cases hz1; exact zs_arraylength hd (Or.inr (Or.inr (Or.inr rfl))) C hag hi hpc hP hS hL hR hn hc hs GA.2.2
    · cases hz1; exact zs_blen hd C hag hi hpc hP hS hL hR hn hc hs GA.2.2
    · cases hz1
  · cases hz1
theorem zp_iaload  (h0 : 0 < j) (h1 : j < 317) (hLK : K.L ≤ 3072) (hat : (zmc j).1[t]? = some (.iaload)) (hz : zst (zqq K ph) (zmc j) (.iaload :: is) ls st σ = some A) (hck : zck (zmo j) (zpc j) pc len r (.iaload) = true) (hd : decode (zmb j) pc = .ok (r, len)) (C : zAct p l R s m args meth c K j d) (hag : zag ad0 ad n0) (hi : is = zdrop (zmc j).1 (t + 1)) (hpc : is = [] ∨ (zpc j)[t + 1]? = some (pc + len)) (hP : zPic K ph ad σ H) (hS : va_S K.A s.heap H locs) (hL : zLoc K ad σ.2.2.2.2.1 lm (zml j) ls) (hR : zRels K ad σ.2.2.2.2.1 st sm) (hn : n0 ≤ σ.2.2.2.2.1) (hc : c0 ≤ σ.2.2.1) (hs : s0 ≤ σ.2.2.2.1)
    (GA : zGoA p l e R s m args below meth c Q K ph j ad0 n0 c0 s0 A) : W p l e R s m args below meth c H locs (σ.2.2.1 - c0) (σ.2.2.2.1 - s0) Q (F0 m pc lm sm) := by
  obtain ⟨rfl, rfl⟩ := zk_iaload hck
  have hz1 : zstM (zqq K ph) .iaload is ls st σ = some A := hz
  delta zstM at hz1
  dsimp only at hz1
  split at hz1
  · split at hz1
    · cases hz1; exact zs_sld hd GA.1.1 GA.1.2 hLK C hag hi hpc hP hS hL hR hn hc hs GA.2
    · cases hz1; exact zs_iaload hd GA.1.1 GA.1.2 C hag hi hpc hP hS hL hR hn hc hs GA.2
    · cases hz1
  · cases hz1
theorem zp_iastore  (h0 : 0 < j) (h1 : j < 317) (hLK : K.L ≤ 3072) (hat : (zmc j).1[t]? = some (.iastore)) (hz : zst (zqq K ph) (zmc j) (.iastore :: is) ls st σ = some A) (hck : zck (zmo j) (zpc j) pc len r (.iastore) = true) (hd : decode (zmb j) pc = .ok (r, len)) (C : zAct p l R s m args meth c K j d) (hag : zag ad0 ad n0) (hi : is = zdrop (zmc j).1 (t + 1)) (hpc : is = [] ∨ (zpc j)[t + 1]? = some (pc + len)) (hP : zPic K ph ad σ H) (hS : va_S K.A s.heap H locs) (hL : zLoc K ad σ.2.2.2.2.1 lm (zml j) ls) (hR : zRels K ad σ.2.2.2.2.1 st sm) (hn : n0 ≤ σ.2.2.2.2.1) (hc : c0 ≤ σ.2.2.1) (hs : s0 ≤ σ.2.2.2.1)
    (GA : zGoA p l e R s m args below meth c Q K ph j ad0 n0 c0 s0 A) : W p l e R s m args below meth c H locs (σ.2.2.1 - c0) (σ.2.2.2.1 - s0) Q (F0 m pc lm sm) := by
  obtain ⟨rfl, rfl⟩ := zk_iastore hck
  have hz1 : zstM (zqq K ph) .iastore is ls st σ = some A := hz
  delta zstM at hz1
  dsimp only at hz1
  split at hz1
  · cases hz1; exact zs_iastore hd GA.1.1 GA.1.2 C hag hi hpc hP hS hL hR hn hc hs GA.2
  · cases hz1
theorem zp_lastore  (h0 : 0 < j) (h1 : j < 317) (hLK : K.L ≤ 3072) (hat : (zmc j).1[t]? = some (.lastore)) (hz : zst (zqq K ph) (zmc j) (.lastore :: is) ls st σ = some A) (hck : zck (zmo j) (zpc j) pc len r (.lastore) = true) (hd : decode (zmb j) pc = .ok (r, len)) (C : zAct p l R s m args meth c K j d) (hag : zag ad0 ad n0) (hi : is = zdrop (zmc j).1 (t + 1)) (hpc : is = [] ∨ (zpc j)[t + 1]? = some (pc + len)) (hP : zPic K ph ad σ H) (hS : va_S K.A s.heap H locs) (hL : zLoc K ad σ.2.2.2.2.1 lm (zml j) ls) (hR : zRels K ad σ.2.2.2.2.1 st sm) (hn : n0 ≤ σ.2.2.2.2.1) (hc : c0 ≤ σ.2.2.1) (hs : s0 ≤ σ.2.2.2.1)
    (GA : zGoA p l e R s m args below meth c Q K ph j ad0 n0 c0 s0 A) : W p l e R s m args below meth c H locs (σ.2.2.1 - c0) (σ.2.2.2.1 - s0) Q (F0 m pc lm sm) := by
  obtain ⟨rfl, rfl⟩ := zk_lastore hck
  have hz1 : zstM (zqq K ph) .lastore is ls st σ = some A := hz
  delta zstM at hz1
  dsimp only at hz1
  split at hz1
  · cases hz1; exact zs_lastore hd GA.1.1 GA.1.2 C hag hi hpc hP hS hL hR hn hc hs GA.2
  · cases hz1
theorem zp_laload  (h0 : 0 < j) (h1 : j < 317) (hLK : K.L ≤ 3072) (hat : (zmc j).1[t]? = some (.laload)) (hz : zst (zqq K ph) (zmc j) (.laload :: is) ls st σ = some A) (hck : zck (zmo j) (zpc j) pc len r (.laload) = true) (hd : decode (zmb j) pc = .ok (r, len)) (C : zAct p l R s m args meth c K j d) (hag : zag ad0 ad n0) (hi : is = zdrop (zmc j).1 (t + 1)) (hpc : is = [] ∨ (zpc j)[t + 1]? = some (pc + len)) (hP : zPic K ph ad σ H) (hS : va_S K.A s.heap H locs) (hL : zLoc K ad σ.2.2.2.2.1 lm (zml j) ls) (hR : zRels K ad σ.2.2.2.2.1 st sm) (hn : n0 ≤ σ.2.2.2.2.1) (hc : c0 ≤ σ.2.2.1) (hs : s0 ≤ σ.2.2.2.1)
    (GA : zGoA p l e R s m args below meth c Q K ph j ad0 n0 c0 s0 A) : W p l e R s m args below meth c H locs (σ.2.2.1 - c0) (σ.2.2.2.1 - s0) Q (F0 m pc lm sm) := by
  obtain ⟨rfl, rfl⟩ := zk_laload hck
  have hz1 : zstM (zqq K ph) .laload is ls st σ = some A := hz
  delta zstM at hz1
  dsimp only at hz1
  split at hz1
  · cases hz1; exact zs_laload hd GA.1.1 GA.1.2 C hag hi hpc hP hS hL hR hn hc hs GA.2
  · cases hz1
theorem zp_baload  (h0 : 0 < j) (h1 : j < 317) (hLK : K.L ≤ 3072) (hat : (zmc j).1[t]? = some (.baload)) (hz : zst (zqq K ph) (zmc j) (.baload :: is) ls st σ = some A) (hck : zck (zmo j) (zpc j) pc len r (.baload) = true) (hd : decode (zmb j) pc = .ok (r, len)) (C : zAct p l R s m args meth c K j d) (hag : zag ad0 ad n0) (hi : is = zdrop (zmc j).1 (t + 1)) (hpc : is = [] ∨ (zpc j)[t + 1]? = some (pc + len)) (hP : zPic K ph ad σ H) (hS : va_S K.A s.heap H locs) (hL : zLoc K ad σ.2.2.2.2.1 lm (zml j) ls) (hR : zRels K ad σ.2.2.2.2.1 st sm) (hn : n0 ≤ σ.2.2.2.2.1) (hc : c0 ≤ σ.2.2.1) (hs : s0 ≤ σ.2.2.2.1)
    (GA : zGoA p l e R s m args below meth c Q K ph j ad0 n0 c0 s0 A) : W p l e R s m args below meth c H locs (σ.2.2.1 - c0) (σ.2.2.2.1 - s0) Q (F0 m pc lm sm) := by
  obtain ⟨rfl, rfl⟩ := zk_baload hck
  have hz1 : zstM (zqq K ph) .baload is ls st σ = some A := hz
  delta zstM at hz1
  dsimp only at hz1
  split at hz1
  · cases hz1; exact zs_bald hd GA.1.1 GA.1.2 C hag hi hpc hP hS hL hR hn hc hs GA.2
  · cases hz1
end ZP
