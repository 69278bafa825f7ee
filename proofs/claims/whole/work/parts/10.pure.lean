/-! ## pure instructions -/
section ZS
variable {p : Program} {l : Launch} {e : Env} {R : Room} {s : State} {m : MethodId} {args : Array Value} {below : List Frame} {meth : Method} {c : Code} {Q : State → Prop} {K : zCx} {ph : Bool} {j d : Nat} {ad0 : Nat → Nat} {n0 c0 s0 : Nat}
variable {is : zL} {ls st : List zV} {σ : zS} {ad : Nat → Nat} {H : Heap} {locs : List Loc} {lm : Array Slot} {sm : List Value} {pc t : Nat}
theorem zs_iadd {x y a b : Int} (hd : decode (zmb j) pc = .ok (.iadd, 1))  (C : zAct p l R s m args meth c K j d) (hag : zag ad0 ad n0) (hi : is = zdrop (zmc j).1 (t + 1)) (hpc : is = [] ∨ (zpc j)[t + 1]? = some (pc + 1)) (hP : zPic K ph ad σ H) (hS : va_S K.A s.heap H locs) (hL : zLoc K ad σ.2.2.2.2.1 lm (zml j) ls) (hR : zRels K ad σ.2.2.2.2.1 ((0, y, b) :: (0, x, a) :: st) sm) (hn : n0 ≤ σ.2.2.2.2.1) (hc : c0 ≤ σ.2.2.1) (hs : s0 ≤ σ.2.2.2.1) (G : zGo p l e R s m args below meth c Q K ph j ad0 n0 c0 s0 is ls ((0, zw (x + y), 0) :: st) σ) : W p l e R s m args below meth c H locs (σ.2.2.1 - c0) (σ.2.2.2.1 - s0) Q (F0 m pc lm sm) := by
  obtain ⟨hx, hb, hml, hown, hts, hcst, -⟩ := C
  obtain ⟨w1, ws1, rfl, ⟨rfl, r1⟩, hR1⟩ := zRels_cons hR
  obtain ⟨w2, ws2, rfl, ⟨rfl, r2⟩, hR2⟩ := zRels_cons hR1
  refine lv_iadd hx hb hd ?_
  rw [zi_add]
  exact G ad H locs lm _ _ (t + 1) hag hi hpc hP hS hL ⟨⟨rfl, zw_rng _⟩, hR2⟩ hn hc hs

theorem zs_isub {x y a b : Int} (hd : decode (zmb j) pc = .ok (.isub, 1))  (C : zAct p l R s m args meth c K j d) (hag : zag ad0 ad n0) (hi : is = zdrop (zmc j).1 (t + 1)) (hpc : is = [] ∨ (zpc j)[t + 1]? = some (pc + 1)) (hP : zPic K ph ad σ H) (hS : va_S K.A s.heap H locs) (hL : zLoc K ad σ.2.2.2.2.1 lm (zml j) ls) (hR : zRels K ad σ.2.2.2.2.1 ((0, y, b) :: (0, x, a) :: st) sm) (hn : n0 ≤ σ.2.2.2.2.1) (hc : c0 ≤ σ.2.2.1) (hs : s0 ≤ σ.2.2.2.1) (G : zGo p l e R s m args below meth c Q K ph j ad0 n0 c0 s0 is ls ((0, zw (x - y), 0) :: st) σ) : W p l e R s m args below meth c H locs (σ.2.2.1 - c0) (σ.2.2.2.1 - s0) Q (F0 m pc lm sm) := by
  obtain ⟨hx, hb, hml, hown, hts, hcst, -⟩ := C
  obtain ⟨w1, ws1, rfl, ⟨rfl, r1⟩, hR1⟩ := zRels_cons hR
  obtain ⟨w2, ws2, rfl, ⟨rfl, r2⟩, hR2⟩ := zRels_cons hR1
  refine lv_isub hx hb hd ?_
  rw [zi_sub]
  exact G ad H locs lm _ _ (t + 1) hag hi hpc hP hS hL ⟨⟨rfl, zw_rng _⟩, hR2⟩ hn hc hs

theorem zs_imul {x y a b : Int} (hd : decode (zmb j) pc = .ok (.imul, 1))  (C : zAct p l R s m args meth c K j d) (hag : zag ad0 ad n0) (hi : is = zdrop (zmc j).1 (t + 1)) (hpc : is = [] ∨ (zpc j)[t + 1]? = some (pc + 1)) (hP : zPic K ph ad σ H) (hS : va_S K.A s.heap H locs) (hL : zLoc K ad σ.2.2.2.2.1 lm (zml j) ls) (hR : zRels K ad σ.2.2.2.2.1 ((0, y, b) :: (0, x, a) :: st) sm) (hn : n0 ≤ σ.2.2.2.2.1) (hc : c0 ≤ σ.2.2.1) (hs : s0 ≤ σ.2.2.2.1) (G : zGo p l e R s m args below meth c Q K ph j ad0 n0 c0 s0 is ls ((0, zw (x * y), 0) :: st) σ) : W p l e R s m args below meth c H locs (σ.2.2.1 - c0) (σ.2.2.2.1 - s0) Q (F0 m pc lm sm) := by
  obtain ⟨hx, hb, hml, hown, hts, hcst, -⟩ := C
  obtain ⟨w1, ws1, rfl, ⟨rfl, r1⟩, hR1⟩ := zRels_cons hR
  obtain ⟨w2, ws2, rfl, ⟨rfl, r2⟩, hR2⟩ := zRels_cons hR1
  refine lv_imul hx hb hd ?_
  rw [zi_mul]
  exact G ad H locs lm _ _ (t + 1) hag hi hpc hP hS hL ⟨⟨rfl, zw_rng _⟩, hR2⟩ hn hc hs

theorem zs_iand {x y a b : Int} (hd : decode (zmb j) pc = .ok (.iand, 1))  (C : zAct p l R s m args meth c K j d) (hag : zag ad0 ad n0) (hi : is = zdrop (zmc j).1 (t + 1)) (hpc : is = [] ∨ (zpc j)[t + 1]? = some (pc + 1)) (hP : zPic K ph ad σ H) (hS : va_S K.A s.heap H locs) (hL : zLoc K ad σ.2.2.2.2.1 lm (zml j) ls) (hR : zRels K ad σ.2.2.2.2.1 ((0, y, b) :: (0, x, a) :: st) sm) (hn : n0 ≤ σ.2.2.2.2.1) (hc : c0 ≤ σ.2.2.1) (hs : s0 ≤ σ.2.2.2.1) (G : zGo p l e R s m args below meth c Q K ph j ad0 n0 c0 s0 is ls ((0, zand x y, 0) :: st) σ) : W p l e R s m args below meth c H locs (σ.2.2.1 - c0) (σ.2.2.2.1 - s0) Q (F0 m pc lm sm) := by
  obtain ⟨hx, hb, hml, hown, hts, hcst, -⟩ := C
  obtain ⟨w1, ws1, rfl, ⟨rfl, r1⟩, hR1⟩ := zRels_cons hR
  obtain ⟨w2, ws2, rfl, ⟨rfl, r2⟩, hR2⟩ := zRels_cons hR1
  refine lv_iand hx hb hd ?_
  rw [zi_and]
  exact G ad H locs lm _ _ (t + 1) hag hi hpc hP hS hL ⟨⟨rfl, zi_rng _⟩, hR2⟩ hn hc hs

theorem zs_ior {x y a b : Int} (hd : decode (zmb j) pc = .ok (.ior, 1))  (C : zAct p l R s m args meth c K j d) (hag : zag ad0 ad n0) (hi : is = zdrop (zmc j).1 (t + 1)) (hpc : is = [] ∨ (zpc j)[t + 1]? = some (pc + 1)) (hP : zPic K ph ad σ H) (hS : va_S K.A s.heap H locs) (hL : zLoc K ad σ.2.2.2.2.1 lm (zml j) ls) (hR : zRels K ad σ.2.2.2.2.1 ((0, y, b) :: (0, x, a) :: st) sm) (hn : n0 ≤ σ.2.2.2.2.1) (hc : c0 ≤ σ.2.2.1) (hs : s0 ≤ σ.2.2.2.1) (G : zGo p l e R s m args below meth c Q K ph j ad0 n0 c0 s0 is ls ((0, zor x y, 0) :: st) σ) : W p l e R s m args below meth c H locs (σ.2.2.1 - c0) (σ.2.2.2.1 - s0) Q (F0 m pc lm sm) := by
  obtain ⟨hx, hb, hml, hown, hts, hcst, -⟩ := C
  obtain ⟨w1, ws1, rfl, ⟨rfl, r1⟩, hR1⟩ := zRels_cons hR
  obtain ⟨w2, ws2, rfl, ⟨rfl, r2⟩, hR2⟩ := zRels_cons hR1
  refine lv_ior hx hb hd ?_
  rw [zi_or]
  exact G ad H locs lm _ _ (t + 1) hag hi hpc hP hS hL ⟨⟨rfl, zi_rng _⟩, hR2⟩ hn hc hs

theorem zs_ixor {x y a b : Int} (hd : decode (zmb j) pc = .ok (.ixor, 1))  (C : zAct p l R s m args meth c K j d) (hag : zag ad0 ad n0) (hi : is = zdrop (zmc j).1 (t + 1)) (hpc : is = [] ∨ (zpc j)[t + 1]? = some (pc + 1)) (hP : zPic K ph ad σ H) (hS : va_S K.A s.heap H locs) (hL : zLoc K ad σ.2.2.2.2.1 lm (zml j) ls) (hR : zRels K ad σ.2.2.2.2.1 ((0, y, b) :: (0, x, a) :: st) sm) (hn : n0 ≤ σ.2.2.2.2.1) (hc : c0 ≤ σ.2.2.1) (hs : s0 ≤ σ.2.2.2.1) (G : zGo p l e R s m args below meth c Q K ph j ad0 n0 c0 s0 is ls ((0, zxor x y, 0) :: st) σ) : W p l e R s m args below meth c H locs (σ.2.2.1 - c0) (σ.2.2.2.1 - s0) Q (F0 m pc lm sm) := by
  obtain ⟨hx, hb, hml, hown, hts, hcst, -⟩ := C
  obtain ⟨w1, ws1, rfl, ⟨rfl, r1⟩, hR1⟩ := zRels_cons hR
  obtain ⟨w2, ws2, rfl, ⟨rfl, r2⟩, hR2⟩ := zRels_cons hR1
  refine lv_ixor hx hb hd ?_
  rw [zi_xor]
  exact G ad H locs lm _ _ (t + 1) hag hi hpc hP hS hL ⟨⟨rfl, zi_rng _⟩, hR2⟩ hn hc hs

theorem zs_ishl {x y a b : Int} (hd : decode (zmb j) pc = .ok (.ishl, 1))  (C : zAct p l R s m args meth c K j d) (hag : zag ad0 ad n0) (hi : is = zdrop (zmc j).1 (t + 1)) (hpc : is = [] ∨ (zpc j)[t + 1]? = some (pc + 1)) (hP : zPic K ph ad σ H) (hS : va_S K.A s.heap H locs) (hL : zLoc K ad σ.2.2.2.2.1 lm (zml j) ls) (hR : zRels K ad σ.2.2.2.2.1 ((0, y, b) :: (0, x, a) :: st) sm) (hn : n0 ≤ σ.2.2.2.2.1) (hc : c0 ≤ σ.2.2.1) (hs : s0 ≤ σ.2.2.2.1) (G : zGo p l e R s m args below meth c Q K ph j ad0 n0 c0 s0 is ls ((0, zshl x y, 0) :: st) σ) : W p l e R s m args below meth c H locs (σ.2.2.1 - c0) (σ.2.2.2.1 - s0) Q (F0 m pc lm sm) := by
  obtain ⟨hx, hb, hml, hown, hts, hcst, -⟩ := C
  obtain ⟨w1, ws1, rfl, ⟨rfl, r1⟩, hR1⟩ := zRels_cons hR
  obtain ⟨w2, ws2, rfl, ⟨rfl, r2⟩, hR2⟩ := zRels_cons hR1
  refine lv_ishl hx hb hd ?_
  rw [zi_shl]
  exact G ad H locs lm _ _ (t + 1) hag hi hpc hP hS hL ⟨⟨rfl, zi_rng _⟩, hR2⟩ hn hc hs

theorem zs_ishr {x y a b : Int} (hd : decode (zmb j) pc = .ok (.ishr, 1))  (C : zAct p l R s m args meth c K j d) (hag : zag ad0 ad n0) (hi : is = zdrop (zmc j).1 (t + 1)) (hpc : is = [] ∨ (zpc j)[t + 1]? = some (pc + 1)) (hP : zPic K ph ad σ H) (hS : va_S K.A s.heap H locs) (hL : zLoc K ad σ.2.2.2.2.1 lm (zml j) ls) (hR : zRels K ad σ.2.2.2.2.1 ((0, y, b) :: (0, x, a) :: st) sm) (hn : n0 ≤ σ.2.2.2.2.1) (hc : c0 ≤ σ.2.2.1) (hs : s0 ≤ σ.2.2.2.1) (G : zGo p l e R s m args below meth c Q K ph j ad0 n0 c0 s0 is ls ((0, zshr x y, 0) :: st) σ) : W p l e R s m args below meth c H locs (σ.2.2.1 - c0) (σ.2.2.2.1 - s0) Q (F0 m pc lm sm) := by
  obtain ⟨hx, hb, hml, hown, hts, hcst, -⟩ := C
  obtain ⟨w1, ws1, rfl, ⟨rfl, r1⟩, hR1⟩ := zRels_cons hR
  obtain ⟨w2, ws2, rfl, ⟨rfl, r2⟩, hR2⟩ := zRels_cons hR1
  refine lv_ishr hx hb hd ?_
  rw [zi_shr]
  exact G ad H locs lm _ _ (t + 1) hag hi hpc hP hS hL ⟨⟨rfl, zi_rng _⟩, hR2⟩ hn hc hs

theorem zs_iushr {x y a b : Int} (hd : decode (zmb j) pc = .ok (.iushr, 1))  (C : zAct p l R s m args meth c K j d) (hag : zag ad0 ad n0) (hi : is = zdrop (zmc j).1 (t + 1)) (hpc : is = [] ∨ (zpc j)[t + 1]? = some (pc + 1)) (hP : zPic K ph ad σ H) (hS : va_S K.A s.heap H locs) (hL : zLoc K ad σ.2.2.2.2.1 lm (zml j) ls) (hR : zRels K ad σ.2.2.2.2.1 ((0, y, b) :: (0, x, a) :: st) sm) (hn : n0 ≤ σ.2.2.2.2.1) (hc : c0 ≤ σ.2.2.1) (hs : s0 ≤ σ.2.2.2.1) (G : zGo p l e R s m args below meth c Q K ph j ad0 n0 c0 s0 is ls ((0, zushr x y, 0) :: st) σ) : W p l e R s m args below meth c H locs (σ.2.2.1 - c0) (σ.2.2.2.1 - s0) Q (F0 m pc lm sm) := by
  obtain ⟨hx, hb, hml, hown, hts, hcst, -⟩ := C
  obtain ⟨w1, ws1, rfl, ⟨rfl, r1⟩, hR1⟩ := zRels_cons hR
  obtain ⟨w2, ws2, rfl, ⟨rfl, r2⟩, hR2⟩ := zRels_cons hR1
  refine lv_iushr hx hb hd (zi_ushr x y) ?_
  exact G ad H locs lm _ _ (t + 1) hag hi hpc hP hS hL ⟨⟨rfl, zi_rng _⟩, hR2⟩ hn hc hs

theorem zs_idiv {x y a b : Int} (hd : decode (zmb j) pc = .ok (.idiv, 1)) (hy : y ≠ 0) (C : zAct p l R s m args meth c K j d) (hag : zag ad0 ad n0) (hi : is = zdrop (zmc j).1 (t + 1)) (hpc : is = [] ∨ (zpc j)[t + 1]? = some (pc + 1)) (hP : zPic K ph ad σ H) (hS : va_S K.A s.heap H locs) (hL : zLoc K ad σ.2.2.2.2.1 lm (zml j) ls) (hR : zRels K ad σ.2.2.2.2.1 ((0, y, b) :: (0, x, a) :: st) sm) (hn : n0 ≤ σ.2.2.2.2.1) (hc : c0 ≤ σ.2.2.1) (hs : s0 ≤ σ.2.2.2.1) (G : zGo p l e R s m args below meth c Q K ph j ad0 n0 c0 s0 is ls ((0, zdiv x y, 0) :: st) σ) : W p l e R s m args below meth c H locs (σ.2.2.1 - c0) (σ.2.2.2.1 - s0) Q (F0 m pc lm sm) := by
  obtain ⟨hx, hb, hml, hown, hts, hcst, -⟩ := C
  obtain ⟨w1, ws1, rfl, ⟨rfl, r1⟩, hR1⟩ := zRels_cons hR
  obtain ⟨w2, ws2, rfl, ⟨rfl, r2⟩, hR2⟩ := zRels_cons hR1
  refine lv_idiv hx hb hd (zi_nz r1 hy) ?_
  rw [zi_div r2 r1]
  exact G ad H locs lm _ _ (t + 1) hag hi hpc hP hS hL ⟨⟨rfl, zw_rng _⟩, hR2⟩ hn hc hs

theorem zs_irem {x y a b : Int} (hd : decode (zmb j) pc = .ok (.irem, 1)) (hy : y ≠ 0) (C : zAct p l R s m args meth c K j d) (hag : zag ad0 ad n0) (hi : is = zdrop (zmc j).1 (t + 1)) (hpc : is = [] ∨ (zpc j)[t + 1]? = some (pc + 1)) (hP : zPic K ph ad σ H) (hS : va_S K.A s.heap H locs) (hL : zLoc K ad σ.2.2.2.2.1 lm (zml j) ls) (hR : zRels K ad σ.2.2.2.2.1 ((0, y, b) :: (0, x, a) :: st) sm) (hn : n0 ≤ σ.2.2.2.2.1) (hc : c0 ≤ σ.2.2.1) (hs : s0 ≤ σ.2.2.2.1) (G : zGo p l e R s m args below meth c Q K ph j ad0 n0 c0 s0 is ls ((0, zrem x y, 0) :: st) σ) : W p l e R s m args below meth c H locs (σ.2.2.1 - c0) (σ.2.2.2.1 - s0) Q (F0 m pc lm sm) := by
  obtain ⟨hx, hb, hml, hown, hts, hcst, -⟩ := C
  obtain ⟨w1, ws1, rfl, ⟨rfl, r1⟩, hR1⟩ := zRels_cons hR
  obtain ⟨w2, ws2, rfl, ⟨rfl, r2⟩, hR2⟩ := zRels_cons hR1
  refine lv_irem hx hb hd (zi_nz r1 hy) ?_
  rw [zi_rem r2 r1]
  exact G ad H locs lm _ _ (t + 1) hag hi hpc hP hS hL ⟨⟨rfl, zrem_rng r2 r1⟩, hR2⟩ hn hc hs

theorem zs_ineg {x a : Int} (hd : decode (zmb j) pc = .ok (.ineg, 1))  (C : zAct p l R s m args meth c K j d) (hag : zag ad0 ad n0) (hi : is = zdrop (zmc j).1 (t + 1)) (hpc : is = [] ∨ (zpc j)[t + 1]? = some (pc + 1)) (hP : zPic K ph ad σ H) (hS : va_S K.A s.heap H locs) (hL : zLoc K ad σ.2.2.2.2.1 lm (zml j) ls) (hR : zRels K ad σ.2.2.2.2.1 ((0, x, a) :: st) sm) (hn : n0 ≤ σ.2.2.2.2.1) (hc : c0 ≤ σ.2.2.1) (hs : s0 ≤ σ.2.2.2.1) (G : zGo p l e R s m args below meth c Q K ph j ad0 n0 c0 s0 is ls ((0, zw (-x), 0) :: st) σ) : W p l e R s m args below meth c H locs (σ.2.2.1 - c0) (σ.2.2.2.1 - s0) Q (F0 m pc lm sm) := by
  obtain ⟨hx, hb, hml, hown, hts, hcst, -⟩ := C
  obtain ⟨w1, ws1, rfl, ⟨rfl, r1⟩, hR1⟩ := zRels_cons hR
  refine lv_ineg hx hb hd ?_
  rw [zi_neg]
  exact G ad H locs lm _ _ (t + 1) hag hi hpc hP hS hL ⟨⟨rfl, zw_rng _⟩, hR1⟩ hn hc hs

theorem zi_c (x : Int) : ((Int32.ofInt x).toUInt32 % 65536).toInt32 = Int32.ofInt (zi2c x) := by
  rw [pk_char]
  show Int32.ofNat _ = _
  rw [zi_ofNat]
  congr 1
  unfold zi2c
  rw [Int32.toBitVec_ofInt, BitVec.toNat_ofInt]
  omega
theorem zs_i2c {x a : Int} (hd : decode (zmb j) pc = .ok (.i2c, 1))  (C : zAct p l R s m args meth c K j d) (hag : zag ad0 ad n0) (hi : is = zdrop (zmc j).1 (t + 1)) (hpc : is = [] ∨ (zpc j)[t + 1]? = some (pc + 1)) (hP : zPic K ph ad σ H) (hS : va_S K.A s.heap H locs) (hL : zLoc K ad σ.2.2.2.2.1 lm (zml j) ls) (hR : zRels K ad σ.2.2.2.2.1 ((0, x, a) :: st) sm) (hn : n0 ≤ σ.2.2.2.2.1) (hc : c0 ≤ σ.2.2.1) (hs : s0 ≤ σ.2.2.2.1) (G : zGo p l e R s m args below meth c Q K ph j ad0 n0 c0 s0 is ls ((0, zi2c x, 0) :: st) σ) : W p l e R s m args below meth c H locs (σ.2.2.1 - c0) (σ.2.2.2.1 - s0) Q (F0 m pc lm sm) := by
  obtain ⟨hx, hb, hml, hown, hts, hcst, -⟩ := C
  obtain ⟨w1, ws1, rfl, ⟨rfl, r1⟩, hR1⟩ := zRels_cons hR
  refine lv_i2c hx hb hd (zi_c x) ?_
  exact G ad H locs lm _ _ (t + 1) hag hi hpc hP hS hL ⟨⟨rfl, by have := zi2c_rng x; exact ⟨by omega, by omega⟩⟩, hR1⟩ hn hc hs

theorem zs_i2l {x a : Int} (hd : decode (zmb j) pc = .ok (.i2l, 1))  (C : zAct p l R s m args meth c K j d) (hag : zag ad0 ad n0) (hi : is = zdrop (zmc j).1 (t + 1)) (hpc : is = [] ∨ (zpc j)[t + 1]? = some (pc + 1)) (hP : zPic K ph ad σ H) (hS : va_S K.A s.heap H locs) (hL : zLoc K ad σ.2.2.2.2.1 lm (zml j) ls) (hR : zRels K ad σ.2.2.2.2.1 ((0, x, a) :: st) sm) (hn : n0 ≤ σ.2.2.2.2.1) (hc : c0 ≤ σ.2.2.1) (hs : s0 ≤ σ.2.2.2.1) (G : zGo p l e R s m args below meth c Q K ph j ad0 n0 c0 s0 is ls ((1, x, 0) :: st) σ) : W p l e R s m args below meth c H locs (σ.2.2.1 - c0) (σ.2.2.2.1 - s0) Q (F0 m pc lm sm) := by
  obtain ⟨hx, hb, hml, hown, hts, hcst, -⟩ := C
  obtain ⟨w1, ws1, rfl, ⟨rfl, r1⟩, hR1⟩ := zRels_cons hR
  refine lv_i2l hx hb hd (zi_l r1) ?_
  exact G ad H locs lm _ _ (t + 1) hag hi hpc hP hS hL ⟨⟨rfl, by have := r1.1; have := r1.2; exact ⟨by omega, by omega⟩⟩, hR1⟩ hn hc hs

theorem zs_l2i {x a : Int} (hd : decode (zmb j) pc = .ok (.l2i, 1))  (C : zAct p l R s m args meth c K j d) (hag : zag ad0 ad n0) (hi : is = zdrop (zmc j).1 (t + 1)) (hpc : is = [] ∨ (zpc j)[t + 1]? = some (pc + 1)) (hP : zPic K ph ad σ H) (hS : va_S K.A s.heap H locs) (hL : zLoc K ad σ.2.2.2.2.1 lm (zml j) ls) (hR : zRels K ad σ.2.2.2.2.1 ((1, x, a) :: st) sm) (hn : n0 ≤ σ.2.2.2.2.1) (hc : c0 ≤ σ.2.2.1) (hs : s0 ≤ σ.2.2.2.1) (G : zGo p l e R s m args below meth c Q K ph j ad0 n0 c0 s0 is ls ((0, zw x, 0) :: st) σ) : W p l e R s m args below meth c H locs (σ.2.2.1 - c0) (σ.2.2.2.1 - s0) Q (F0 m pc lm sm) := by
  obtain ⟨hx, hb, hml, hown, hts, hcst, -⟩ := C
  obtain ⟨w1, ws1, rfl, ⟨rfl, r1⟩, hR1⟩ := zRels_cons hR
  refine lv_l2i hx hb hd (zl_i r1) ?_
  exact G ad H locs lm _ _ (t + 1) hag hi hpc hP hS hL ⟨⟨rfl, zw_rng _⟩, hR1⟩ hn hc hs

theorem zs_ladd {x y a b : Int} (hd : decode (zmb j) pc = .ok (.ladd, 1))  (C : zAct p l R s m args meth c K j d) (hag : zag ad0 ad n0) (hi : is = zdrop (zmc j).1 (t + 1)) (hpc : is = [] ∨ (zpc j)[t + 1]? = some (pc + 1)) (hP : zPic K ph ad σ H) (hS : va_S K.A s.heap H locs) (hL : zLoc K ad σ.2.2.2.2.1 lm (zml j) ls) (hR : zRels K ad σ.2.2.2.2.1 ((1, y, b) :: (1, x, a) :: st) sm) (hn : n0 ≤ σ.2.2.2.2.1) (hc : c0 ≤ σ.2.2.1) (hs : s0 ≤ σ.2.2.2.1) (G : zGo p l e R s m args below meth c Q K ph j ad0 n0 c0 s0 is ls ((1, zwl (x + y), 0) :: st) σ) : W p l e R s m args below meth c H locs (σ.2.2.1 - c0) (σ.2.2.2.1 - s0) Q (F0 m pc lm sm) := by
  obtain ⟨hx, hb, hml, hown, hts, hcst, -⟩ := C
  obtain ⟨w1, ws1, rfl, ⟨rfl, r1⟩, hR1⟩ := zRels_cons hR
  obtain ⟨w2, ws2, rfl, ⟨rfl, r2⟩, hR2⟩ := zRels_cons hR1
  refine lv_ladd hx hb hd ?_
  rw [zl_add]
  exact G ad H locs lm _ _ (t + 1) hag hi hpc hP hS hL ⟨⟨rfl, zwl_rng _⟩, hR2⟩ hn hc hs

theorem zs_lmul {x y a b : Int} (hd : decode (zmb j) pc = .ok (.lmul, 1))  (C : zAct p l R s m args meth c K j d) (hag : zag ad0 ad n0) (hi : is = zdrop (zmc j).1 (t + 1)) (hpc : is = [] ∨ (zpc j)[t + 1]? = some (pc + 1)) (hP : zPic K ph ad σ H) (hS : va_S K.A s.heap H locs) (hL : zLoc K ad σ.2.2.2.2.1 lm (zml j) ls) (hR : zRels K ad σ.2.2.2.2.1 ((1, y, b) :: (1, x, a) :: st) sm) (hn : n0 ≤ σ.2.2.2.2.1) (hc : c0 ≤ σ.2.2.1) (hs : s0 ≤ σ.2.2.2.1) (G : zGo p l e R s m args below meth c Q K ph j ad0 n0 c0 s0 is ls ((1, zwl (x * y), 0) :: st) σ) : W p l e R s m args below meth c H locs (σ.2.2.1 - c0) (σ.2.2.2.1 - s0) Q (F0 m pc lm sm) := by
  obtain ⟨hx, hb, hml, hown, hts, hcst, -⟩ := C
  obtain ⟨w1, ws1, rfl, ⟨rfl, r1⟩, hR1⟩ := zRels_cons hR
  obtain ⟨w2, ws2, rfl, ⟨rfl, r2⟩, hR2⟩ := zRels_cons hR1
  refine lv_lmul hx hb hd ?_
  rw [zl_mul]
  exact G ad H locs lm _ _ (t + 1) hag hi hpc hP hS hL ⟨⟨rfl, zwl_rng _⟩, hR2⟩ hn hc hs

theorem zs_ldiv {x y a b : Int} (hd : decode (zmb j) pc = .ok (.ldiv, 1)) (hy : y ≠ 0) (C : zAct p l R s m args meth c K j d) (hag : zag ad0 ad n0) (hi : is = zdrop (zmc j).1 (t + 1)) (hpc : is = [] ∨ (zpc j)[t + 1]? = some (pc + 1)) (hP : zPic K ph ad σ H) (hS : va_S K.A s.heap H locs) (hL : zLoc K ad σ.2.2.2.2.1 lm (zml j) ls) (hR : zRels K ad σ.2.2.2.2.1 ((1, y, b) :: (1, x, a) :: st) sm) (hn : n0 ≤ σ.2.2.2.2.1) (hc : c0 ≤ σ.2.2.1) (hs : s0 ≤ σ.2.2.2.1) (G : zGo p l e R s m args below meth c Q K ph j ad0 n0 c0 s0 is ls ((1, zwl (Int.tdiv x y), 0) :: st) σ) : W p l e R s m args below meth c H locs (σ.2.2.1 - c0) (σ.2.2.2.1 - s0) Q (F0 m pc lm sm) := by
  obtain ⟨hx, hb, hml, hown, hts, hcst, -⟩ := C
  obtain ⟨w1, ws1, rfl, ⟨rfl, r1⟩, hR1⟩ := zRels_cons hR
  obtain ⟨w2, ws2, rfl, ⟨rfl, r2⟩, hR2⟩ := zRels_cons hR1
  refine lv_ldiv hx hb hd (zl_nz r1 hy) ?_
  rw [zl_div r2 r1]
  exact G ad H locs lm _ _ (t + 1) hag hi hpc hP hS hL ⟨⟨rfl, zwl_rng _⟩, hR2⟩ hn hc hs

theorem zcmp_ok {x y : Int} (hx : zI64 x) (hy : zI64 y) : lg_cmp (Int64.ofInt x) (Int64.ofInt y) = Int32.ofInt (zcmp x y) := by
  unfold lg_cmp zcmp
  simp only [gt_iff_lt, zl_lt hy hx, zl_eq hx hy]
  split
  · rfl
  · split <;> rfl
theorem zcmp_rng (x y : Int) : zI32 (zcmp x y) := by
  unfold zcmp
  split
  · exact ⟨by omega, by omega⟩
  · split <;> exact ⟨by omega, by omega⟩
theorem zs_lcmp {x y a b : Int} (hd : decode (zmb j) pc = .ok (.lcmp, 1))  (C : zAct p l R s m args meth c K j d) (hag : zag ad0 ad n0) (hi : is = zdrop (zmc j).1 (t + 1)) (hpc : is = [] ∨ (zpc j)[t + 1]? = some (pc + 1)) (hP : zPic K ph ad σ H) (hS : va_S K.A s.heap H locs) (hL : zLoc K ad σ.2.2.2.2.1 lm (zml j) ls) (hR : zRels K ad σ.2.2.2.2.1 ((1, y, b) :: (1, x, a) :: st) sm) (hn : n0 ≤ σ.2.2.2.2.1) (hc : c0 ≤ σ.2.2.1) (hs : s0 ≤ σ.2.2.2.1) (G : zGo p l e R s m args below meth c Q K ph j ad0 n0 c0 s0 is ls ((0, zcmp x y, 0) :: st) σ) : W p l e R s m args below meth c H locs (σ.2.2.1 - c0) (σ.2.2.2.1 - s0) Q (F0 m pc lm sm) := by
  obtain ⟨hx, hb, hml, hown, hts, hcst, -⟩ := C
  obtain ⟨w1, ws1, rfl, ⟨rfl, r1⟩, hR1⟩ := zRels_cons hR
  obtain ⟨w2, ws2, rfl, ⟨rfl, r2⟩, hR2⟩ := zRels_cons hR1
  refine W.lcmp hx hb hd ?_
  rw [zcmp_ok r2 r1]
  exact G ad H locs lm _ _ (t + 1) hag hi hpc hP hS hL ⟨⟨rfl, zcmp_rng _ _⟩, hR2⟩ hn hc hs

theorem zs_dup {k : Nat} {x a : Int} (hd : decode (zmb j) pc = .ok (.dup, 1)) (hk : k ≠ 1) (C : zAct p l R s m args meth c K j d) (hag : zag ad0 ad n0) (hi : is = zdrop (zmc j).1 (t + 1)) (hpc : is = [] ∨ (zpc j)[t + 1]? = some (pc + 1)) (hP : zPic K ph ad σ H) (hS : va_S K.A s.heap H locs) (hL : zLoc K ad σ.2.2.2.2.1 lm (zml j) ls) (hR : zRels K ad σ.2.2.2.2.1 ((k, x, a) :: st) sm) (hn : n0 ≤ σ.2.2.2.2.1) (hc : c0 ≤ σ.2.2.1) (hs : s0 ≤ σ.2.2.2.1) (G : zGo p l e R s m args below meth c Q K ph j ad0 n0 c0 s0 is ls ((k, x, a) :: (k, x, a) :: st) σ) : W p l e R s m args below meth c H locs (σ.2.2.1 - c0) (σ.2.2.2.1 - s0) Q (F0 m pc lm sm) := by
  obtain ⟨hx, hb, hml, hown, hts, hcst, -⟩ := C
  obtain ⟨w1, ws1, rfl, r1, hR1⟩ := zRels_cons hR
  refine lv_dup hx hb hd (by rw [zRel_cat r1, if_neg hk]) ?_
  exact G ad H locs lm _ _ (t + 1) hag hi hpc hP hS hL ⟨r1, r1, hR1⟩ hn hc hs

theorem zs_pop {k : Nat} {x a : Int} (hd : decode (zmb j) pc = .ok (.pop, 1)) (hk : k ≠ 1) (C : zAct p l R s m args meth c K j d) (hag : zag ad0 ad n0) (hi : is = zdrop (zmc j).1 (t + 1)) (hpc : is = [] ∨ (zpc j)[t + 1]? = some (pc + 1)) (hP : zPic K ph ad σ H) (hS : va_S K.A s.heap H locs) (hL : zLoc K ad σ.2.2.2.2.1 lm (zml j) ls) (hR : zRels K ad σ.2.2.2.2.1 ((k, x, a) :: st) sm) (hn : n0 ≤ σ.2.2.2.2.1) (hc : c0 ≤ σ.2.2.1) (hs : s0 ≤ σ.2.2.2.1) (G : zGo p l e R s m args below meth c Q K ph j ad0 n0 c0 s0 is ls st σ) : W p l e R s m args below meth c H locs (σ.2.2.1 - c0) (σ.2.2.2.1 - s0) Q (F0 m pc lm sm) := by
  obtain ⟨hx, hb, hml, hown, hts, hcst, -⟩ := C
  obtain ⟨w1, ws1, rfl, r1, hR1⟩ := zRels_cons hR
  refine lv_pop hx hb hd (by rw [zRel_cat r1, if_neg hk]) ?_
  exact G ad H locs lm _ _ (t + 1) hag hi hpc hP hS hL hR1 hn hc hs

theorem zs_dup2 {x y a b : Int} (hd : decode (zmb j) pc = .ok (.dup2, 1))  (C : zAct p l R s m args meth c K j d) (hag : zag ad0 ad n0) (hi : is = zdrop (zmc j).1 (t + 1)) (hpc : is = [] ∨ (zpc j)[t + 1]? = some (pc + 1)) (hP : zPic K ph ad σ H) (hS : va_S K.A s.heap H locs) (hL : zLoc K ad σ.2.2.2.2.1 lm (zml j) ls) (hR : zRels K ad σ.2.2.2.2.1 ((0, x, a) :: (30, y, b) :: st) sm) (hn : n0 ≤ σ.2.2.2.2.1) (hc : c0 ≤ σ.2.2.1) (hs : s0 ≤ σ.2.2.2.1) (G : zGo p l e R s m args below meth c Q K ph j ad0 n0 c0 s0 is ls ((0, x, a) :: (30, y, b) :: (0, x, a) :: (30, y, b) :: st) σ) : W p l e R s m args below meth c H locs (σ.2.2.1 - c0) (σ.2.2.2.1 - s0) Q (F0 m pc lm sm) := by
  obtain ⟨hx, hb, hml, hown, hts, hcst, -⟩ := C
  obtain ⟨w1, ws1, rfl, r1, hR1⟩ := zRels_cons hR
  obtain ⟨w2, ws2, rfl, r2, hR2⟩ := zRels_cons hR1
  refine lv_dup2_11 hx hb hd (by rw [zRel_cat r1]; rfl) (by rw [zRel_cat r2]; rfl) ?_
  exact G ad H locs lm _ _ (t + 1) hag hi hpc hP hS hL ⟨r1, r2, r1, r2, hR2⟩ hn hc hs

theorem zs_aconst_null (hd : decode (zmb j) pc = .ok (.aconst_null, 1))  (C : zAct p l R s m args meth c K j d) (hag : zag ad0 ad n0) (hi : is = zdrop (zmc j).1 (t + 1)) (hpc : is = [] ∨ (zpc j)[t + 1]? = some (pc + 1)) (hP : zPic K ph ad σ H) (hS : va_S K.A s.heap H locs) (hL : zLoc K ad σ.2.2.2.2.1 lm (zml j) ls) (hR : zRels K ad σ.2.2.2.2.1 st sm) (hn : n0 ≤ σ.2.2.2.2.1) (hc : c0 ≤ σ.2.2.1) (hs : s0 ≤ σ.2.2.2.1) (G : zGo p l e R s m args below meth c Q K ph j ad0 n0 c0 s0 is ls ((4, -1, 0) :: st) σ) : W p l e R s m args below meth c H locs (σ.2.2.1 - c0) (σ.2.2.2.1 - s0) Q (F0 m pc lm sm) := by
  obtain ⟨hx, hb, hml, hown, hts, hcst, -⟩ := C
  refine lv_null hx hb hd ?_
  exact G ad H locs lm _ _ (t + 1) hag hi hpc hP hS hL ⟨rfl, hR⟩ hn hc hs

theorem zs_iconst {k : Int} (hd : decode (zmb j) pc = .ok (.iconst k, 1)) (hk : zI32 k) (C : zAct p l R s m args meth c K j d) (hag : zag ad0 ad n0) (hi : is = zdrop (zmc j).1 (t + 1)) (hpc : is = [] ∨ (zpc j)[t + 1]? = some (pc + 1)) (hP : zPic K ph ad σ H) (hS : va_S K.A s.heap H locs) (hL : zLoc K ad σ.2.2.2.2.1 lm (zml j) ls) (hR : zRels K ad σ.2.2.2.2.1 st sm) (hn : n0 ≤ σ.2.2.2.2.1) (hc : c0 ≤ σ.2.2.1) (hs : s0 ≤ σ.2.2.2.1) (G : zGo p l e R s m args below meth c Q K ph j ad0 n0 c0 s0 is ls ((0, k, 0) :: st) σ) : W p l e R s m args below meth c H locs (σ.2.2.1 - c0) (σ.2.2.2.1 - s0) Q (F0 m pc lm sm) := by
  obtain ⟨hx, hb, hml, hown, hts, hcst, -⟩ := C
  refine lv_iconst (v := Int32.ofInt k) hx hb hd rfl ?_
  exact G ad H locs lm _ _ (t + 1) hag hi hpc hP hS hL ⟨⟨rfl, hk⟩, hR⟩ hn hc hs

theorem zi_b8 {k : Int} (h1 : -128 ≤ k) (h2 : k < 128) : (Int8.ofInt k).toInt32 = Int32.ofInt k := by
  apply Int32.toInt_inj.mp
  rw [Int8.toInt_toInt32, Int8.toInt_ofInt_of_le (by omega) (by omega), zi_toInt ⟨by omega, by omega⟩]
theorem zi_s16 {k : Int} (h1 : -32768 ≤ k) (h2 : k < 32768) : (Int16.ofInt k).toInt32 = Int32.ofInt k := by
  apply Int32.toInt_inj.mp
  rw [Int16.toInt_toInt32, Int16.toInt_ofInt_of_le (by omega) (by omega), zi_toInt ⟨by omega, by omega⟩]
theorem zs_bipush {k : Int} (hd : decode (zmb j) pc = .ok (.bipush k, 2)) (hk : -128 ≤ k ∧ k < 128) (C : zAct p l R s m args meth c K j d) (hag : zag ad0 ad n0) (hi : is = zdrop (zmc j).1 (t + 1)) (hpc : is = [] ∨ (zpc j)[t + 1]? = some (pc + 2)) (hP : zPic K ph ad σ H) (hS : va_S K.A s.heap H locs) (hL : zLoc K ad σ.2.2.2.2.1 lm (zml j) ls) (hR : zRels K ad σ.2.2.2.2.1 st sm) (hn : n0 ≤ σ.2.2.2.2.1) (hc : c0 ≤ σ.2.2.1) (hs : s0 ≤ σ.2.2.2.1) (G : zGo p l e R s m args below meth c Q K ph j ad0 n0 c0 s0 is ls ((0, k, 0) :: st) σ) : W p l e R s m args below meth c H locs (σ.2.2.1 - c0) (σ.2.2.2.1 - s0) Q (F0 m pc lm sm) := by
  obtain ⟨hx, hb, hml, hown, hts, hcst, -⟩ := C
  refine lv_bipush hx hb hd (zi_b8 hk.1 hk.2) ?_
  exact G ad H locs lm _ _ (t + 1) hag hi hpc hP hS hL ⟨⟨rfl, by have := hk.1; have := hk.2; exact ⟨by omega, by omega⟩⟩, hR⟩ hn hc hs

theorem zs_sipush {k : Int} (hd : decode (zmb j) pc = .ok (.sipush k, 3)) (hk : -32768 ≤ k ∧ k < 32768) (C : zAct p l R s m args meth c K j d) (hag : zag ad0 ad n0) (hi : is = zdrop (zmc j).1 (t + 1)) (hpc : is = [] ∨ (zpc j)[t + 1]? = some (pc + 3)) (hP : zPic K ph ad σ H) (hS : va_S K.A s.heap H locs) (hL : zLoc K ad σ.2.2.2.2.1 lm (zml j) ls) (hR : zRels K ad σ.2.2.2.2.1 st sm) (hn : n0 ≤ σ.2.2.2.2.1) (hc : c0 ≤ σ.2.2.1) (hs : s0 ≤ σ.2.2.2.1) (G : zGo p l e R s m args below meth c Q K ph j ad0 n0 c0 s0 is ls ((0, k, 0) :: st) σ) : W p l e R s m args below meth c H locs (σ.2.2.1 - c0) (σ.2.2.2.1 - s0) Q (F0 m pc lm sm) := by
  obtain ⟨hx, hb, hml, hown, hts, hcst, -⟩ := C
  refine lv_sipush hx hb hd (zi_s16 hk.1 hk.2) ?_
  exact G ad H locs lm _ _ (t + 1) hag hi hpc hP hS hL ⟨⟨rfl, by have := hk.1; have := hk.2; exact ⟨by omega, by omega⟩⟩, hR⟩ hn hc hs

theorem zs_ldcI {i : Nat} {k : Int} (hd : decode (zmb j) pc = .ok (.ldc i, 2)) (hk : zI32 k) (hw : Cond.constant (zcn (zmo j)) i (Int32.ofInt k) ∈ lw_tbl ∧ goodWord (Cond.constant (zcn (zmo j)) i (Int32.ofInt k)) = true) (C : zAct p l R s m args meth c K j d) (hag : zag ad0 ad n0) (hi : is = zdrop (zmc j).1 (t + 1)) (hpc : is = [] ∨ (zpc j)[t + 1]? = some (pc + 2)) (hP : zPic K ph ad σ H) (hS : va_S K.A s.heap H locs) (hL : zLoc K ad σ.2.2.2.2.1 lm (zml j) ls) (hR : zRels K ad σ.2.2.2.2.1 st sm) (hn : n0 ≤ σ.2.2.2.2.1) (hc : c0 ≤ σ.2.2.1) (hs : s0 ≤ σ.2.2.2.1) (G : zGo p l e R s m args below meth c Q K ph j ad0 n0 c0 s0 is ls ((0, k, 0) :: st) σ) : W p l e R s m args below meth c H locs (σ.2.2.1 - c0) (σ.2.2.2.1 - s0) Q (F0 m pc lm sm) := by
  obtain ⟨hx, hb, hml, hown, hts, hcst, -⟩ := C
  refine lv_ldc hx hb hown (hts _ hw.1 hw.2) hd ?_
  exact G ad H locs lm _ _ (t + 1) hag hi hpc hP hS hL ⟨⟨rfl, hk⟩, hR⟩ hn hc hs

theorem zs_ldcIw {i : Nat} {k : Int} (hd : decode (zmb j) pc = .ok (.ldc_w i, 3)) (hk : zI32 k) (hw : Cond.constant (zcn (zmo j)) i (Int32.ofInt k) ∈ lw_tbl ∧ goodWord (Cond.constant (zcn (zmo j)) i (Int32.ofInt k)) = true) (C : zAct p l R s m args meth c K j d) (hag : zag ad0 ad n0) (hi : is = zdrop (zmc j).1 (t + 1)) (hpc : is = [] ∨ (zpc j)[t + 1]? = some (pc + 3)) (hP : zPic K ph ad σ H) (hS : va_S K.A s.heap H locs) (hL : zLoc K ad σ.2.2.2.2.1 lm (zml j) ls) (hR : zRels K ad σ.2.2.2.2.1 st sm) (hn : n0 ≤ σ.2.2.2.2.1) (hc : c0 ≤ σ.2.2.1) (hs : s0 ≤ σ.2.2.2.1) (G : zGo p l e R s m args below meth c Q K ph j ad0 n0 c0 s0 is ls ((0, k, 0) :: st) σ) : W p l e R s m args below meth c H locs (σ.2.2.1 - c0) (σ.2.2.2.1 - s0) Q (F0 m pc lm sm) := by
  obtain ⟨hx, hb, hml, hown, hts, hcst, -⟩ := C
  refine lv_ldcw hx hb hown (hts _ hw.1 hw.2) hd ?_
  exact G ad H locs lm _ _ (t + 1) hag hi hpc hP hS hL ⟨⟨rfl, hk⟩, hR⟩ hn hc hs

theorem zs_ldc2 {i : Nat} {k : Int} (hd : decode (zmb j) pc = .ok (.ldc2_w i, 3)) (hk : zI64 k) (hw : Cond.constantLong (zcn (zmo j)) i (Int64.ofInt k) ∈ lw_tbl ∧ goodWord (Cond.constantLong (zcn (zmo j)) i (Int64.ofInt k)) = true) (C : zAct p l R s m args meth c K j d) (hag : zag ad0 ad n0) (hi : is = zdrop (zmc j).1 (t + 1)) (hpc : is = [] ∨ (zpc j)[t + 1]? = some (pc + 3)) (hP : zPic K ph ad σ H) (hS : va_S K.A s.heap H locs) (hL : zLoc K ad σ.2.2.2.2.1 lm (zml j) ls) (hR : zRels K ad σ.2.2.2.2.1 st sm) (hn : n0 ≤ σ.2.2.2.2.1) (hc : c0 ≤ σ.2.2.1) (hs : s0 ≤ σ.2.2.2.1) (G : zGo p l e R s m args below meth c Q K ph j ad0 n0 c0 s0 is ls ((1, k, 0) :: st) σ) : W p l e R s m args below meth c H locs (σ.2.2.1 - c0) (σ.2.2.2.1 - s0) Q (F0 m pc lm sm) := by
  obtain ⟨hx, hb, hml, hown, hts, hcst, -⟩ := C
  refine lv_ldc2 hx hb hown (hts _ hw.1 hw.2) hd ?_
  exact G ad H locs lm _ _ (t + 1) hag hi hpc hP hS hL ⟨⟨rfl, hk⟩, hR⟩ hn hc hs

theorem zs_lconst {k : Fin 2} (hd : decode (zmb j) pc = .ok (.lconst k, 1))  (C : zAct p l R s m args meth c K j d) (hag : zag ad0 ad n0) (hi : is = zdrop (zmc j).1 (t + 1)) (hpc : is = [] ∨ (zpc j)[t + 1]? = some (pc + 1)) (hP : zPic K ph ad σ H) (hS : va_S K.A s.heap H locs) (hL : zLoc K ad σ.2.2.2.2.1 lm (zml j) ls) (hR : zRels K ad σ.2.2.2.2.1 st sm) (hn : n0 ≤ σ.2.2.2.2.1) (hc : c0 ≤ σ.2.2.1) (hs : s0 ≤ σ.2.2.2.1) (G : zGo p l e R s m args below meth c Q K ph j ad0 n0 c0 s0 is ls ((1, (k.val : Int), 0) :: st) σ) : W p l e R s m args below meth c H locs (σ.2.2.1 - c0) (σ.2.2.2.1 - s0) Q (F0 m pc lm sm) := by
  obtain ⟨hx, hb, hml, hown, hts, hcst, -⟩ := C
  refine lv_lconst (v := Int64.ofInt (k.val : Int)) hx hb hd Int64.ofInt_eq_ofNat.symm ?_
  exact G ad H locs lm _ _ (t + 1) hag hi hpc hP hS hL ⟨⟨rfl, by have := k.isLt; exact ⟨by omega, by omega⟩⟩, hR⟩ hn hc hs

theorem zs_iload {k : Nat} {x a : Int} (hd : decode (zmb j) pc = .ok (.iload k, 2)) (hg : zget ls k = (0, x, a)) (C : zAct p l R s m args meth c K j d) (hag : zag ad0 ad n0) (hi : is = zdrop (zmc j).1 (t + 1)) (hpc : is = [] ∨ (zpc j)[t + 1]? = some (pc + 2)) (hP : zPic K ph ad σ H) (hS : va_S K.A s.heap H locs) (hL : zLoc K ad σ.2.2.2.2.1 lm (zml j) ls) (hR : zRels K ad σ.2.2.2.2.1 st sm) (hn : n0 ≤ σ.2.2.2.2.1) (hc : c0 ≤ σ.2.2.1) (hs : s0 ≤ σ.2.2.2.1) (G : zGo p l e R s m args below meth c Q K ph j ad0 n0 c0 s0 is ls ((0, x, a) :: st) σ) : W p l e R s m args below meth c H locs (σ.2.2.1 - c0) (σ.2.2.2.1 - s0) Q (F0 m pc lm sm) := by
  obtain ⟨hx, hb, hml, hown, hts, hcst, -⟩ := C
  obtain ⟨w1, e1, rfl, r1⟩ := hL.2.2.2 k _ (zget_some hg (Or.inl (by simp))) (by simp) (by simp)
  refine lv_iload hx hb hd e1 ?_
  exact G ad H locs lm _ _ (t + 1) hag hi hpc hP hS hL ⟨⟨rfl, r1⟩, hR⟩ hn hc hs

theorem zs_iload_n {k : Nat} {x a : Int} {f : Fin 4} (hd : decode (zmb j) pc = .ok (.iload_n f, 1)) (hg : zget ls k = (0, x, a)) (hf : (f : Nat) = k) (C : zAct p l R s m args meth c K j d) (hag : zag ad0 ad n0) (hi : is = zdrop (zmc j).1 (t + 1)) (hpc : is = [] ∨ (zpc j)[t + 1]? = some (pc + 1)) (hP : zPic K ph ad σ H) (hS : va_S K.A s.heap H locs) (hL : zLoc K ad σ.2.2.2.2.1 lm (zml j) ls) (hR : zRels K ad σ.2.2.2.2.1 st sm) (hn : n0 ≤ σ.2.2.2.2.1) (hc : c0 ≤ σ.2.2.1) (hs : s0 ≤ σ.2.2.2.1) (G : zGo p l e R s m args below meth c Q K ph j ad0 n0 c0 s0 is ls ((0, x, a) :: st) σ) : W p l e R s m args below meth c H locs (σ.2.2.1 - c0) (σ.2.2.2.1 - s0) Q (F0 m pc lm sm) := by
  obtain ⟨hx, hb, hml, hown, hts, hcst, -⟩ := C
  obtain ⟨w1, e1, rfl, r1⟩ := hL.2.2.2 k _ (zget_some hg (Or.inl (by simp))) (by simp) (by simp)
  refine lv_iload_n hx hb hd hf e1 ?_
  exact G ad H locs lm _ _ (t + 1) hag hi hpc hP hS hL ⟨⟨rfl, r1⟩, hR⟩ hn hc hs

theorem zs_lload {k : Nat} {x a b : Int} (hd : decode (zmb j) pc = .ok (.lload k, 2)) (hg : zget ls k = (1, x, a)) (hg2 : zget ls (k + 1) = (2, 1, b)) (C : zAct p l R s m args meth c K j d) (hag : zag ad0 ad n0) (hi : is = zdrop (zmc j).1 (t + 1)) (hpc : is = [] ∨ (zpc j)[t + 1]? = some (pc + 2)) (hP : zPic K ph ad σ H) (hS : va_S K.A s.heap H locs) (hL : zLoc K ad σ.2.2.2.2.1 lm (zml j) ls) (hR : zRels K ad σ.2.2.2.2.1 st sm) (hn : n0 ≤ σ.2.2.2.2.1) (hc : c0 ≤ σ.2.2.1) (hs : s0 ≤ σ.2.2.2.1) (G : zGo p l e R s m args below meth c Q K ph j ad0 n0 c0 s0 is ls ((1, x, a) :: st) σ) : W p l e R s m args below meth c H locs (σ.2.2.1 - c0) (σ.2.2.2.1 - s0) Q (F0 m pc lm sm) := by
  obtain ⟨hx, hb, hml, hown, hts, hcst, -⟩ := C
  obtain ⟨w1, e1, rfl, r1⟩ := hL.2.2.2 k _ (zget_some hg (Or.inl (by simp))) (by simp) (fun _ => ⟨b, zget_some hg2 (Or.inr (by simp))⟩)
  refine lv_lload hx hb hd e1 ?_
  exact G ad H locs lm _ _ (t + 1) hag hi hpc hP hS hL ⟨⟨rfl, r1⟩, hR⟩ hn hc hs

theorem zs_lload_n {k : Nat} {x a b : Int} {f : Fin 4} (hd : decode (zmb j) pc = .ok (.lload_n f, 1)) (hg : zget ls k = (1, x, a)) (hg2 : zget ls (k + 1) = (2, 1, b)) (hf : (f : Nat) = k) (C : zAct p l R s m args meth c K j d) (hag : zag ad0 ad n0) (hi : is = zdrop (zmc j).1 (t + 1)) (hpc : is = [] ∨ (zpc j)[t + 1]? = some (pc + 1)) (hP : zPic K ph ad σ H) (hS : va_S K.A s.heap H locs) (hL : zLoc K ad σ.2.2.2.2.1 lm (zml j) ls) (hR : zRels K ad σ.2.2.2.2.1 st sm) (hn : n0 ≤ σ.2.2.2.2.1) (hc : c0 ≤ σ.2.2.1) (hs : s0 ≤ σ.2.2.2.1) (G : zGo p l e R s m args below meth c Q K ph j ad0 n0 c0 s0 is ls ((1, x, a) :: st) σ) : W p l e R s m args below meth c H locs (σ.2.2.1 - c0) (σ.2.2.2.1 - s0) Q (F0 m pc lm sm) := by
  obtain ⟨hx, hb, hml, hown, hts, hcst, -⟩ := C
  obtain ⟨w1, e1, rfl, r1⟩ := hL.2.2.2 k _ (zget_some hg (Or.inl (by simp))) (by simp) (fun _ => ⟨b, zget_some hg2 (Or.inr (by simp))⟩)
  refine lv_lload_n hx hb hd hf e1 ?_
  exact G ad H locs lm _ _ (t + 1) hag hi hpc hP hS hL ⟨⟨rfl, r1⟩, hR⟩ hn hc hs

theorem zs_aload {k u : Nat} {x a : Int} (hd : decode (zmb j) pc = .ok (.aload k, 2)) (hg : zget ls k = (u, x, a)) (hu : 3 ≤ u) (C : zAct p l R s m args meth c K j d) (hag : zag ad0 ad n0) (hi : is = zdrop (zmc j).1 (t + 1)) (hpc : is = [] ∨ (zpc j)[t + 1]? = some (pc + 2)) (hP : zPic K ph ad σ H) (hS : va_S K.A s.heap H locs) (hL : zLoc K ad σ.2.2.2.2.1 lm (zml j) ls) (hR : zRels K ad σ.2.2.2.2.1 st sm) (hn : n0 ≤ σ.2.2.2.2.1) (hc : c0 ≤ σ.2.2.1) (hs : s0 ≤ σ.2.2.2.1) (G : zGo p l e R s m args below meth c Q K ph j ad0 n0 c0 s0 is ls ((u, x, a) :: st) σ) : W p l e R s m args below meth c H locs (σ.2.2.1 - c0) (σ.2.2.2.1 - s0) Q (F0 m pc lm sm) := by
  obtain ⟨hx, hb, hml, hown, hts, hcst, -⟩ := C
  obtain ⟨w1, e1, r1⟩ := hL.2.2.2 k _ (zget_some hg (Or.inl (by simp; omega))) (by simp; omega) (fun h => by simp at h; omega)
  obtain ⟨r, rfl⟩ := zRel_rf r1 hu
  cases r with
  | none =>
    refine lv_aloadN hx hb hd e1 ?_
    exact G ad H locs lm _ _ (t + 1) hag hi hpc hP hS hL ⟨r1, hR⟩ hn hc hs
  | some q =>
    refine lv_aload hx hb hd e1 ?_
    exact G ad H locs lm _ _ (t + 1) hag hi hpc hP hS hL ⟨r1, hR⟩ hn hc hs

theorem zs_aload_n {k u : Nat} {x a : Int} {f : Fin 4} (hd : decode (zmb j) pc = .ok (.aload_n f, 1)) (hg : zget ls k = (u, x, a)) (hu : 3 ≤ u) (hf : (f : Nat) = k) (C : zAct p l R s m args meth c K j d) (hag : zag ad0 ad n0) (hi : is = zdrop (zmc j).1 (t + 1)) (hpc : is = [] ∨ (zpc j)[t + 1]? = some (pc + 1)) (hP : zPic K ph ad σ H) (hS : va_S K.A s.heap H locs) (hL : zLoc K ad σ.2.2.2.2.1 lm (zml j) ls) (hR : zRels K ad σ.2.2.2.2.1 st sm) (hn : n0 ≤ σ.2.2.2.2.1) (hc : c0 ≤ σ.2.2.1) (hs : s0 ≤ σ.2.2.2.1) (G : zGo p l e R s m args below meth c Q K ph j ad0 n0 c0 s0 is ls ((u, x, a) :: st) σ) : W p l e R s m args below meth c H locs (σ.2.2.1 - c0) (σ.2.2.2.1 - s0) Q (F0 m pc lm sm) := by
  obtain ⟨hx, hb, hml, hown, hts, hcst, -⟩ := C
  obtain ⟨w1, e1, r1⟩ := hL.2.2.2 k _ (zget_some hg (Or.inl (by simp; omega))) (by simp; omega) (fun h => by simp at h; omega)
  obtain ⟨r, rfl⟩ := zRel_rf r1 hu
  cases r with
  | none =>
    refine lv_aload_nN hx hb hd hf e1 ?_
    exact G ad H locs lm _ _ (t + 1) hag hi hpc hP hS hL ⟨r1, hR⟩ hn hc hs
  | some q =>
    refine lv_aload_n hx hb hd hf e1 ?_
    exact G ad H locs lm _ _ (t + 1) hag hi hpc hP hS hL ⟨r1, hR⟩ hn hc hs

theorem zs_istore {k : Nat} {x a : Int} (hd : decode (zmb j) pc = .ok (.istore k, 2)) (hk : k < zml j) (C : zAct p l R s m args meth c K j d) (hag : zag ad0 ad n0) (hi : is = zdrop (zmc j).1 (t + 1)) (hpc : is = [] ∨ (zpc j)[t + 1]? = some (pc + 2)) (hP : zPic K ph ad σ H) (hS : va_S K.A s.heap H locs) (hL : zLoc K ad σ.2.2.2.2.1 lm (zml j) ls) (hR : zRels K ad σ.2.2.2.2.1 ((0, x, a) :: st) sm) (hn : n0 ≤ σ.2.2.2.2.1) (hc : c0 ≤ σ.2.2.1) (hs : s0 ≤ σ.2.2.2.1) (G : zGo p l e R s m args below meth c Q K ph j ad0 n0 c0 s0 is (zset ls k (0, x, a)) st σ) : W p l e R s m args below meth c H locs (σ.2.2.1 - c0) (σ.2.2.2.1 - s0) Q (F0 m pc lm sm) := by
  obtain ⟨hx, hb, hml, hown, hts, hcst, -⟩ := C
  obtain ⟨w1, ws1, rfl, r1, hR1⟩ := zRels_cons hR
  obtain ⟨lv, hlv, hlm⟩ := zLoc_st1 hL hk r1 (by rw [zRel_cat r1]; rfl)
  obtain ⟨rfl, -⟩ := r1
  refine lv_istore hx hb hd hlv hk rfl (fun lm2 hl2 => ?_)
  exact G ad H locs lm2 _ _ (t + 1) hag hi hpc hP hS (hlm lm2 hl2) hR1 hn hc hs

theorem zs_istore_n {k : Nat} {x a : Int} {f : Fin 4} (hd : decode (zmb j) pc = .ok (.istore_n f, 1)) (hk : k < zml j) (hf : (f : Nat) = k) (C : zAct p l R s m args meth c K j d) (hag : zag ad0 ad n0) (hi : is = zdrop (zmc j).1 (t + 1)) (hpc : is = [] ∨ (zpc j)[t + 1]? = some (pc + 1)) (hP : zPic K ph ad σ H) (hS : va_S K.A s.heap H locs) (hL : zLoc K ad σ.2.2.2.2.1 lm (zml j) ls) (hR : zRels K ad σ.2.2.2.2.1 ((0, x, a) :: st) sm) (hn : n0 ≤ σ.2.2.2.2.1) (hc : c0 ≤ σ.2.2.1) (hs : s0 ≤ σ.2.2.2.1) (G : zGo p l e R s m args below meth c Q K ph j ad0 n0 c0 s0 is (zset ls k (0, x, a)) st σ) : W p l e R s m args below meth c H locs (σ.2.2.1 - c0) (σ.2.2.2.1 - s0) Q (F0 m pc lm sm) := by
  obtain ⟨hx, hb, hml, hown, hts, hcst, -⟩ := C
  obtain ⟨w1, ws1, rfl, r1, hR1⟩ := zRels_cons hR
  obtain ⟨lv, hlv, hlm⟩ := zLoc_st1 hL hk r1 (by rw [zRel_cat r1]; rfl)
  obtain ⟨rfl, -⟩ := r1
  refine lv_istore_n hx hb hd hf hlv hk rfl (fun lm2 hl2 => ?_)
  exact G ad H locs lm2 _ _ (t + 1) hag hi hpc hP hS (hlm lm2 hl2) hR1 hn hc hs

theorem zs_lstore {k : Nat} {x a : Int} (hd : decode (zmb j) pc = .ok (.lstore k, 2)) (hk : k + 1 < zml j) (C : zAct p l R s m args meth c K j d) (hag : zag ad0 ad n0) (hi : is = zdrop (zmc j).1 (t + 1)) (hpc : is = [] ∨ (zpc j)[t + 1]? = some (pc + 2)) (hP : zPic K ph ad σ H) (hS : va_S K.A s.heap H locs) (hL : zLoc K ad σ.2.2.2.2.1 lm (zml j) ls) (hR : zRels K ad σ.2.2.2.2.1 ((1, x, a) :: st) sm) (hn : n0 ≤ σ.2.2.2.2.1) (hc : c0 ≤ σ.2.2.1) (hs : s0 ≤ σ.2.2.2.1) (G : zGo p l e R s m args below meth c Q K ph j ad0 n0 c0 s0 is (zset (zset ls k (1, x, a)) (k + 1) (2, 1, 0)) st σ) : W p l e R s m args below meth c H locs (σ.2.2.1 - c0) (σ.2.2.2.1 - s0) Q (F0 m pc lm sm) := by
  obtain ⟨hx, hb, hml, hown, hts, hcst, -⟩ := C
  obtain ⟨w1, ws1, rfl, r1, hR1⟩ := zRels_cons hR
  obtain ⟨lv, hlv, hlm⟩ := zLoc_st2 hL hk r1
  obtain ⟨rfl, -⟩ := r1
  refine lv_lstore hx hb hd hlv hk rfl (fun lm2 hl2 => ?_)
  exact G ad H locs lm2 _ _ (t + 1) hag hi hpc hP hS (hlm lm2 hl2) hR1 hn hc hs

theorem zs_lstore_n {k : Nat} {x a : Int} {f : Fin 4} (hd : decode (zmb j) pc = .ok (.lstore_n f, 1)) (hk : k + 1 < zml j) (hf : (f : Nat) = k) (C : zAct p l R s m args meth c K j d) (hag : zag ad0 ad n0) (hi : is = zdrop (zmc j).1 (t + 1)) (hpc : is = [] ∨ (zpc j)[t + 1]? = some (pc + 1)) (hP : zPic K ph ad σ H) (hS : va_S K.A s.heap H locs) (hL : zLoc K ad σ.2.2.2.2.1 lm (zml j) ls) (hR : zRels K ad σ.2.2.2.2.1 ((1, x, a) :: st) sm) (hn : n0 ≤ σ.2.2.2.2.1) (hc : c0 ≤ σ.2.2.1) (hs : s0 ≤ σ.2.2.2.1) (G : zGo p l e R s m args below meth c Q K ph j ad0 n0 c0 s0 is (zset (zset ls k (1, x, a)) (k + 1) (2, 1, 0)) st σ) : W p l e R s m args below meth c H locs (σ.2.2.1 - c0) (σ.2.2.2.1 - s0) Q (F0 m pc lm sm) := by
  obtain ⟨hx, hb, hml, hown, hts, hcst, -⟩ := C
  obtain ⟨w1, ws1, rfl, r1, hR1⟩ := zRels_cons hR
  obtain ⟨lv, hlv, hlm⟩ := zLoc_st2 hL hk r1
  obtain ⟨rfl, -⟩ := r1
  refine lv_lstore_n hx hb hd hf hlv hk rfl (fun lm2 hl2 => ?_)
  exact G ad H locs lm2 _ _ (t + 1) hag hi hpc hP hS (hlm lm2 hl2) hR1 hn hc hs

theorem zs_astore {k u : Nat} {x a : Int} (hd : decode (zmb j) pc = .ok (.astore k, 2)) (hk : k < zml j) (hu : 3 ≤ u) (C : zAct p l R s m args meth c K j d) (hag : zag ad0 ad n0) (hi : is = zdrop (zmc j).1 (t + 1)) (hpc : is = [] ∨ (zpc j)[t + 1]? = some (pc + 2)) (hP : zPic K ph ad σ H) (hS : va_S K.A s.heap H locs) (hL : zLoc K ad σ.2.2.2.2.1 lm (zml j) ls) (hR : zRels K ad σ.2.2.2.2.1 ((u, x, a) :: st) sm) (hn : n0 ≤ σ.2.2.2.2.1) (hc : c0 ≤ σ.2.2.1) (hs : s0 ≤ σ.2.2.2.1) (G : zGo p l e R s m args below meth c Q K ph j ad0 n0 c0 s0 is (zset ls k (u, x, a)) st σ) : W p l e R s m args below meth c H locs (σ.2.2.1 - c0) (σ.2.2.2.1 - s0) Q (F0 m pc lm sm) := by
  obtain ⟨hx, hb, hml, hown, hts, hcst, -⟩ := C
  obtain ⟨w1, ws1, rfl, r1, hR1⟩ := zRels_cons hR
  obtain ⟨lv, hlv, hlm⟩ := zLoc_st1 hL hk r1 (by rw [zRel_cat r1, if_neg (by omega)])
  obtain ⟨r, rfl⟩ := zRel_rf r1 hu
  cases r with
  | none =>
    refine lv_astoreN hx hb hd hlv hk rfl (fun lm2 hl2 => ?_)
    exact G ad H locs lm2 _ _ (t + 1) hag hi hpc hP hS (hlm lm2 hl2) hR1 hn hc hs
  | some q =>
    refine lv_astore hx hb hd hlv hk rfl (fun lm2 hl2 => ?_)
    exact G ad H locs lm2 _ _ (t + 1) hag hi hpc hP hS (hlm lm2 hl2) hR1 hn hc hs

theorem zs_astore_n {k u : Nat} {x a : Int} {f : Fin 4} (hd : decode (zmb j) pc = .ok (.astore_n f, 1)) (hk : k < zml j) (hu : 3 ≤ u) (hf : (f : Nat) = k) (C : zAct p l R s m args meth c K j d) (hag : zag ad0 ad n0) (hi : is = zdrop (zmc j).1 (t + 1)) (hpc : is = [] ∨ (zpc j)[t + 1]? = some (pc + 1)) (hP : zPic K ph ad σ H) (hS : va_S K.A s.heap H locs) (hL : zLoc K ad σ.2.2.2.2.1 lm (zml j) ls) (hR : zRels K ad σ.2.2.2.2.1 ((u, x, a) :: st) sm) (hn : n0 ≤ σ.2.2.2.2.1) (hc : c0 ≤ σ.2.2.1) (hs : s0 ≤ σ.2.2.2.1) (G : zGo p l e R s m args below meth c Q K ph j ad0 n0 c0 s0 is (zset ls k (u, x, a)) st σ) : W p l e R s m args below meth c H locs (σ.2.2.1 - c0) (σ.2.2.2.1 - s0) Q (F0 m pc lm sm) := by
  obtain ⟨hx, hb, hml, hown, hts, hcst, -⟩ := C
  obtain ⟨w1, ws1, rfl, r1, hR1⟩ := zRels_cons hR
  obtain ⟨lv, hlv, hlm⟩ := zLoc_st1 hL hk r1 (by rw [zRel_cat r1, if_neg (by omega)])
  obtain ⟨r, rfl⟩ := zRel_rf r1 hu
  cases r with
  | none =>
    refine lv_astore_nN hx hb hd hf hlv hk rfl (fun lm2 hl2 => ?_)
    exact G ad H locs lm2 _ _ (t + 1) hag hi hpc hP hS (hlm lm2 hl2) hR1 hn hc hs
  | some q =>
    refine lv_astore_n hx hb hd hf hlv hk rfl (fun lm2 hl2 => ?_)
    exact G ad H locs lm2 _ _ (t + 1) hag hi hpc hP hS (hlm lm2 hl2) hR1 hn hc hs

theorem zs_iinc {k : Nat} {u x a : Int} (hd : decode (zmb j) pc = .ok (.iinc k u, 3)) (hk : k < zml j) (hg : zget ls k = (0, x, a)) (C : zAct p l R s m args meth c K j d) (hag : zag ad0 ad n0) (hi : is = zdrop (zmc j).1 (t + 1)) (hpc : is = [] ∨ (zpc j)[t + 1]? = some (pc + 3)) (hP : zPic K ph ad σ H) (hS : va_S K.A s.heap H locs) (hL : zLoc K ad σ.2.2.2.2.1 lm (zml j) ls) (hR : zRels K ad σ.2.2.2.2.1 st sm) (hn : n0 ≤ σ.2.2.2.2.1) (hc : c0 ≤ σ.2.2.1) (hs : s0 ≤ σ.2.2.2.1) (G : zGo p l e R s m args below meth c Q K ph j ad0 n0 c0 s0 is (zset ls k (0, zw (x + u), 0)) st σ) : W p l e R s m args below meth c H locs (σ.2.2.1 - c0) (σ.2.2.2.1 - s0) Q (F0 m pc lm sm) := by
  obtain ⟨hx, hb, hml, hown, hts, hcst, -⟩ := C
  obtain ⟨w1, e1, rfl, r1⟩ := hL.2.2.2 k _ (zget_some hg (Or.inl (by simp))) (by simp) (by simp)
  obtain ⟨lv, hlv, hlm⟩ := zLoc_st1 (v := (0, zw (x + u), 0)) (w := .int (Int32.ofInt (zw (x + u)))) hL hk ⟨rfl, zw_rng _⟩ rfl
  refine lv_iinc (k := 0) (lv := (k, Value.int (Int32.ofInt x)) :: lv) (v := Int32.ofInt (zw (x + u))) hx hb hd ⟨hlv.1, hlv.2.1, fun q hq => ?_⟩ rfl (zi_add x u) hk rfl (fun lm2 hl2 => ?_)
  · rcases List.mem_cons.mp hq with h | h
    · rw [h]; exact e1
    · exact hlv.2.2 q h
  · refine G ad H locs lm2 _ _ (t + 1) hag hi hpc hP hS (hlm lm2 ?_) hR hn hc hs
    refine ⟨hl2.1, hl2.2.1, fun q hq => ?_⟩
    rcases List.mem_cons.mp hq with h | h
    · exact hl2.2.2 q (by rw [h]; exact List.mem_cons_self)
    · refine hl2.2.2 q (List.mem_cons_of_mem _ ?_)
      rw [List.mem_filter] at h ⊢
      exact ⟨List.mem_cons_of_mem _ h.1, h.2⟩
theorem zs_goto {f u : Int} (hd : decode (zmb j) pc = .ok (.goto f, 3)) (hj : ztg (zpc j) pc f u = true) (C : zAct p l R s m args meth c K j d) (hag : zag ad0 ad n0) (hP : zPic K ph ad σ H) (hS : va_S K.A s.heap H locs) (hL : zLoc K ad σ.2.2.2.2.1 lm (zml j) ls) (hR : zRels K ad σ.2.2.2.2.1 st sm) (hn : n0 ≤ σ.2.2.2.2.1) (hc : c0 ≤ σ.2.2.1) (hs : s0 ≤ σ.2.2.2.1) (G : zGo p l e R s m args below meth c Q K ph j ad0 n0 c0 s0 (zdrop (zmc j).1 u.toNat) ls st σ) : W p l e R s m args below meth c H locs (σ.2.2.1 - c0) (σ.2.2.2.1 - s0) Q (F0 m pc lm sm) := by
  obtain ⟨hx, hb, hml, hown, hts, hcst, -⟩ := C
  obtain ⟨tg, h1, h2⟩ := ztg_ok hj
  refine lv_goto hx hb hd h2 ?_
  exact G ad H locs lm _ _ _ hag rfl (Or.inr h1) hP hS hL hR hn hc hs
theorem zs_icmp_eq {f u x y a b : Int} (hd : decode (zmb j) pc = .ok (.if_icmp .eq f, 3)) (hj : ztg (zpc j) pc f u = true) (hi : is = zdrop (zmc j).1 (t + 1)) (hpc : is = [] ∨ (zpc j)[t + 1]? = some (pc + 3)) (C : zAct p l R s m args meth c K j d) (hag : zag ad0 ad n0) (hP : zPic K ph ad σ H) (hS : va_S K.A s.heap H locs) (hL : zLoc K ad σ.2.2.2.2.1 lm (zml j) ls) (hR : zRels K ad σ.2.2.2.2.1 ((0, y, b) :: (0, x, a) :: st) sm) (hn : n0 ≤ σ.2.2.2.2.1) (hc : c0 ≤ σ.2.2.1) (hs : s0 ≤ σ.2.2.2.1) (G1 : x = y → zGo p l e R s m args below meth c Q K ph j ad0 n0 c0 s0 (zdrop (zmc j).1 u.toNat) ls st σ) (G2 : ¬ (x = y) → zGo p l e R s m args below meth c Q K ph j ad0 n0 c0 s0 is ls st σ) : W p l e R s m args below meth c H locs (σ.2.2.1 - c0) (σ.2.2.2.1 - s0) Q (F0 m pc lm sm) := by
  obtain ⟨hx, hb, hml, hown, hts, hcst, -⟩ := C
  obtain ⟨tg, h1, h2⟩ := ztg_ok hj
  obtain ⟨w1, ws1, rfl, ⟨rfl, r1⟩, hR1⟩ := zRels_cons hR
  obtain ⟨w2, ws2, rfl, ⟨rfl, r2⟩, hR2⟩ := zRels_cons hR1
  refine lv_icmp_eq hx hb hd h2 (fun h => ?_) (fun h => ?_)
  · exact G1 ((zi_eq r2 r1).mp h) ad H locs lm _ _ _ hag rfl (Or.inr h1) hP hS hL hR2 hn hc hs
  · exact G2 (fun z => h ((zi_eq r2 r1).mpr z)) ad H locs lm _ _ _ hag hi hpc hP hS hL hR2 hn hc hs
theorem zs_if_eq {f u x a : Int} (hd : decode (zmb j) pc = .ok (.ifCond .eq f, 3)) (hj : ztg (zpc j) pc f u = true) (hi : is = zdrop (zmc j).1 (t + 1)) (hpc : is = [] ∨ (zpc j)[t + 1]? = some (pc + 3)) (C : zAct p l R s m args meth c K j d) (hag : zag ad0 ad n0) (hP : zPic K ph ad σ H) (hS : va_S K.A s.heap H locs) (hL : zLoc K ad σ.2.2.2.2.1 lm (zml j) ls) (hR : zRels K ad σ.2.2.2.2.1 ((0, x, a) :: st) sm) (hn : n0 ≤ σ.2.2.2.2.1) (hc : c0 ≤ σ.2.2.1) (hs : s0 ≤ σ.2.2.2.1) (G1 : x = 0 → zGo p l e R s m args below meth c Q K ph j ad0 n0 c0 s0 (zdrop (zmc j).1 u.toNat) ls st σ) (G2 : ¬ (x = 0) → zGo p l e R s m args below meth c Q K ph j ad0 n0 c0 s0 is ls st σ) : W p l e R s m args below meth c H locs (σ.2.2.1 - c0) (σ.2.2.2.1 - s0) Q (F0 m pc lm sm) := by
  obtain ⟨hx, hb, hml, hown, hts, hcst, -⟩ := C
  obtain ⟨tg, h1, h2⟩ := ztg_ok hj
  obtain ⟨w1, ws1, rfl, ⟨rfl, r1⟩, hR1⟩ := zRels_cons hR
  refine lv_if_eq hx hb hd h2 (fun h => ?_) (fun h => ?_) <;> rw [← zi_0] at h
  · exact G1 ((zi_eq r1 (⟨by omega, by omega⟩ : zI32 0)).mp h) ad H locs lm _ _ _ hag rfl (Or.inr h1) hP hS hL hR1 hn hc hs
  · exact G2 (fun z => h ((zi_eq r1 (⟨by omega, by omega⟩ : zI32 0)).mpr z)) ad H locs lm _ _ _ hag hi hpc hP hS hL hR1 hn hc hs
theorem zs_icmp_ne {f u x y a b : Int} (hd : decode (zmb j) pc = .ok (.if_icmp .ne f, 3)) (hj : ztg (zpc j) pc f u = true) (hi : is = zdrop (zmc j).1 (t + 1)) (hpc : is = [] ∨ (zpc j)[t + 1]? = some (pc + 3)) (C : zAct p l R s m args meth c K j d) (hag : zag ad0 ad n0) (hP : zPic K ph ad σ H) (hS : va_S K.A s.heap H locs) (hL : zLoc K ad σ.2.2.2.2.1 lm (zml j) ls) (hR : zRels K ad σ.2.2.2.2.1 ((0, y, b) :: (0, x, a) :: st) sm) (hn : n0 ≤ σ.2.2.2.2.1) (hc : c0 ≤ σ.2.2.1) (hs : s0 ≤ σ.2.2.2.1) (G1 : x ≠ y → zGo p l e R s m args below meth c Q K ph j ad0 n0 c0 s0 (zdrop (zmc j).1 u.toNat) ls st σ) (G2 : ¬ (x ≠ y) → zGo p l e R s m args below meth c Q K ph j ad0 n0 c0 s0 is ls st σ) : W p l e R s m args below meth c H locs (σ.2.2.1 - c0) (σ.2.2.2.1 - s0) Q (F0 m pc lm sm) := by
  obtain ⟨hx, hb, hml, hown, hts, hcst, -⟩ := C
  obtain ⟨tg, h1, h2⟩ := ztg_ok hj
  obtain ⟨w1, ws1, rfl, ⟨rfl, r1⟩, hR1⟩ := zRels_cons hR
  obtain ⟨w2, ws2, rfl, ⟨rfl, r2⟩, hR2⟩ := zRels_cons hR1
  refine lv_icmp_ne hx hb hd h2 (fun h => ?_) (fun h => ?_)
  · exact G1 (fun z => h ((zi_eq r2 r1).mpr z)) ad H locs lm _ _ _ hag rfl (Or.inr h1) hP hS hL hR2 hn hc hs
  · exact G2 (fun z => z ((zi_eq r2 r1).mp h)) ad H locs lm _ _ _ hag hi hpc hP hS hL hR2 hn hc hs
theorem zs_if_ne {f u x a : Int} (hd : decode (zmb j) pc = .ok (.ifCond .ne f, 3)) (hj : ztg (zpc j) pc f u = true) (hi : is = zdrop (zmc j).1 (t + 1)) (hpc : is = [] ∨ (zpc j)[t + 1]? = some (pc + 3)) (C : zAct p l R s m args meth c K j d) (hag : zag ad0 ad n0) (hP : zPic K ph ad σ H) (hS : va_S K.A s.heap H locs) (hL : zLoc K ad σ.2.2.2.2.1 lm (zml j) ls) (hR : zRels K ad σ.2.2.2.2.1 ((0, x, a) :: st) sm) (hn : n0 ≤ σ.2.2.2.2.1) (hc : c0 ≤ σ.2.2.1) (hs : s0 ≤ σ.2.2.2.1) (G1 : x ≠ 0 → zGo p l e R s m args below meth c Q K ph j ad0 n0 c0 s0 (zdrop (zmc j).1 u.toNat) ls st σ) (G2 : ¬ (x ≠ 0) → zGo p l e R s m args below meth c Q K ph j ad0 n0 c0 s0 is ls st σ) : W p l e R s m args below meth c H locs (σ.2.2.1 - c0) (σ.2.2.2.1 - s0) Q (F0 m pc lm sm) := by
  obtain ⟨hx, hb, hml, hown, hts, hcst, -⟩ := C
  obtain ⟨tg, h1, h2⟩ := ztg_ok hj
  obtain ⟨w1, ws1, rfl, ⟨rfl, r1⟩, hR1⟩ := zRels_cons hR
  refine lv_if_ne hx hb hd h2 (fun h => ?_) (fun h => ?_) <;> rw [← zi_0] at h
  · exact G1 (fun z => h ((zi_eq r1 (⟨by omega, by omega⟩ : zI32 0)).mpr z)) ad H locs lm _ _ _ hag rfl (Or.inr h1) hP hS hL hR1 hn hc hs
  · exact G2 (fun z => z ((zi_eq r1 (⟨by omega, by omega⟩ : zI32 0)).mp h)) ad H locs lm _ _ _ hag hi hpc hP hS hL hR1 hn hc hs
theorem zs_icmp_lt {f u x y a b : Int} (hd : decode (zmb j) pc = .ok (.if_icmp .lt f, 3)) (hj : ztg (zpc j) pc f u = true) (hi : is = zdrop (zmc j).1 (t + 1)) (hpc : is = [] ∨ (zpc j)[t + 1]? = some (pc + 3)) (C : zAct p l R s m args meth c K j d) (hag : zag ad0 ad n0) (hP : zPic K ph ad σ H) (hS : va_S K.A s.heap H locs) (hL : zLoc K ad σ.2.2.2.2.1 lm (zml j) ls) (hR : zRels K ad σ.2.2.2.2.1 ((0, y, b) :: (0, x, a) :: st) sm) (hn : n0 ≤ σ.2.2.2.2.1) (hc : c0 ≤ σ.2.2.1) (hs : s0 ≤ σ.2.2.2.1) (G1 : x < y → zGo p l e R s m args below meth c Q K ph j ad0 n0 c0 s0 (zdrop (zmc j).1 u.toNat) ls st σ) (G2 : ¬ (x < y) → zGo p l e R s m args below meth c Q K ph j ad0 n0 c0 s0 is ls st σ) : W p l e R s m args below meth c H locs (σ.2.2.1 - c0) (σ.2.2.2.1 - s0) Q (F0 m pc lm sm) := by
  obtain ⟨hx, hb, hml, hown, hts, hcst, -⟩ := C
  obtain ⟨tg, h1, h2⟩ := ztg_ok hj
  obtain ⟨w1, ws1, rfl, ⟨rfl, r1⟩, hR1⟩ := zRels_cons hR
  obtain ⟨w2, ws2, rfl, ⟨rfl, r2⟩, hR2⟩ := zRels_cons hR1
  refine lv_icmp_lt hx hb hd h2 (fun h => ?_) (fun h => ?_)
  · exact G1 ((zi_lt r2 r1).mp h) ad H locs lm _ _ _ hag rfl (Or.inr h1) hP hS hL hR2 hn hc hs
  · exact G2 (fun z => h ((zi_lt r2 r1).mpr z)) ad H locs lm _ _ _ hag hi hpc hP hS hL hR2 hn hc hs
theorem zs_if_lt {f u x a : Int} (hd : decode (zmb j) pc = .ok (.ifCond .lt f, 3)) (hj : ztg (zpc j) pc f u = true) (hi : is = zdrop (zmc j).1 (t + 1)) (hpc : is = [] ∨ (zpc j)[t + 1]? = some (pc + 3)) (C : zAct p l R s m args meth c K j d) (hag : zag ad0 ad n0) (hP : zPic K ph ad σ H) (hS : va_S K.A s.heap H locs) (hL : zLoc K ad σ.2.2.2.2.1 lm (zml j) ls) (hR : zRels K ad σ.2.2.2.2.1 ((0, x, a) :: st) sm) (hn : n0 ≤ σ.2.2.2.2.1) (hc : c0 ≤ σ.2.2.1) (hs : s0 ≤ σ.2.2.2.1) (G1 : x < 0 → zGo p l e R s m args below meth c Q K ph j ad0 n0 c0 s0 (zdrop (zmc j).1 u.toNat) ls st σ) (G2 : ¬ (x < 0) → zGo p l e R s m args below meth c Q K ph j ad0 n0 c0 s0 is ls st σ) : W p l e R s m args below meth c H locs (σ.2.2.1 - c0) (σ.2.2.2.1 - s0) Q (F0 m pc lm sm) := by
  obtain ⟨hx, hb, hml, hown, hts, hcst, -⟩ := C
  obtain ⟨tg, h1, h2⟩ := ztg_ok hj
  obtain ⟨w1, ws1, rfl, ⟨rfl, r1⟩, hR1⟩ := zRels_cons hR
  refine lv_if_lt hx hb hd h2 (fun h => ?_) (fun h => ?_) <;> rw [← zi_0] at h
  · exact G1 ((zi_lt r1 (⟨by omega, by omega⟩ : zI32 0)).mp h) ad H locs lm _ _ _ hag rfl (Or.inr h1) hP hS hL hR1 hn hc hs
  · exact G2 (fun z => h ((zi_lt r1 (⟨by omega, by omega⟩ : zI32 0)).mpr z)) ad H locs lm _ _ _ hag hi hpc hP hS hL hR1 hn hc hs
theorem zs_icmp_ge {f u x y a b : Int} (hd : decode (zmb j) pc = .ok (.if_icmp .ge f, 3)) (hj : ztg (zpc j) pc f u = true) (hi : is = zdrop (zmc j).1 (t + 1)) (hpc : is = [] ∨ (zpc j)[t + 1]? = some (pc + 3)) (C : zAct p l R s m args meth c K j d) (hag : zag ad0 ad n0) (hP : zPic K ph ad σ H) (hS : va_S K.A s.heap H locs) (hL : zLoc K ad σ.2.2.2.2.1 lm (zml j) ls) (hR : zRels K ad σ.2.2.2.2.1 ((0, y, b) :: (0, x, a) :: st) sm) (hn : n0 ≤ σ.2.2.2.2.1) (hc : c0 ≤ σ.2.2.1) (hs : s0 ≤ σ.2.2.2.1) (G1 : y ≤ x → zGo p l e R s m args below meth c Q K ph j ad0 n0 c0 s0 (zdrop (zmc j).1 u.toNat) ls st σ) (G2 : ¬ (y ≤ x) → zGo p l e R s m args below meth c Q K ph j ad0 n0 c0 s0 is ls st σ) : W p l e R s m args below meth c H locs (σ.2.2.1 - c0) (σ.2.2.2.1 - s0) Q (F0 m pc lm sm) := by
  obtain ⟨hx, hb, hml, hown, hts, hcst, -⟩ := C
  obtain ⟨tg, h1, h2⟩ := ztg_ok hj
  obtain ⟨w1, ws1, rfl, ⟨rfl, r1⟩, hR1⟩ := zRels_cons hR
  obtain ⟨w2, ws2, rfl, ⟨rfl, r2⟩, hR2⟩ := zRels_cons hR1
  refine lv_icmp_ge hx hb hd h2 (fun h => ?_) (fun h => ?_)
  · exact G1 ((zi_le r1 r2).mp h) ad H locs lm _ _ _ hag rfl (Or.inr h1) hP hS hL hR2 hn hc hs
  · exact G2 (fun z => h ((zi_le r1 r2).mpr z)) ad H locs lm _ _ _ hag hi hpc hP hS hL hR2 hn hc hs
theorem zs_if_ge {f u x a : Int} (hd : decode (zmb j) pc = .ok (.ifCond .ge f, 3)) (hj : ztg (zpc j) pc f u = true) (hi : is = zdrop (zmc j).1 (t + 1)) (hpc : is = [] ∨ (zpc j)[t + 1]? = some (pc + 3)) (C : zAct p l R s m args meth c K j d) (hag : zag ad0 ad n0) (hP : zPic K ph ad σ H) (hS : va_S K.A s.heap H locs) (hL : zLoc K ad σ.2.2.2.2.1 lm (zml j) ls) (hR : zRels K ad σ.2.2.2.2.1 ((0, x, a) :: st) sm) (hn : n0 ≤ σ.2.2.2.2.1) (hc : c0 ≤ σ.2.2.1) (hs : s0 ≤ σ.2.2.2.1) (G1 : 0 ≤ x → zGo p l e R s m args below meth c Q K ph j ad0 n0 c0 s0 (zdrop (zmc j).1 u.toNat) ls st σ) (G2 : ¬ (0 ≤ x) → zGo p l e R s m args below meth c Q K ph j ad0 n0 c0 s0 is ls st σ) : W p l e R s m args below meth c H locs (σ.2.2.1 - c0) (σ.2.2.2.1 - s0) Q (F0 m pc lm sm) := by
  obtain ⟨hx, hb, hml, hown, hts, hcst, -⟩ := C
  obtain ⟨tg, h1, h2⟩ := ztg_ok hj
  obtain ⟨w1, ws1, rfl, ⟨rfl, r1⟩, hR1⟩ := zRels_cons hR
  refine lv_if_ge hx hb hd h2 (fun h => ?_) (fun h => ?_) <;> rw [← zi_0] at h
  · exact G1 ((zi_le (⟨by omega, by omega⟩ : zI32 0) r1).mp h) ad H locs lm _ _ _ hag rfl (Or.inr h1) hP hS hL hR1 hn hc hs
  · exact G2 (fun z => h ((zi_le (⟨by omega, by omega⟩ : zI32 0) r1).mpr z)) ad H locs lm _ _ _ hag hi hpc hP hS hL hR1 hn hc hs
theorem zs_icmp_gt {f u x y a b : Int} (hd : decode (zmb j) pc = .ok (.if_icmp .gt f, 3)) (hj : ztg (zpc j) pc f u = true) (hi : is = zdrop (zmc j).1 (t + 1)) (hpc : is = [] ∨ (zpc j)[t + 1]? = some (pc + 3)) (C : zAct p l R s m args meth c K j d) (hag : zag ad0 ad n0) (hP : zPic K ph ad σ H) (hS : va_S K.A s.heap H locs) (hL : zLoc K ad σ.2.2.2.2.1 lm (zml j) ls) (hR : zRels K ad σ.2.2.2.2.1 ((0, y, b) :: (0, x, a) :: st) sm) (hn : n0 ≤ σ.2.2.2.2.1) (hc : c0 ≤ σ.2.2.1) (hs : s0 ≤ σ.2.2.2.1) (G1 : y < x → zGo p l e R s m args below meth c Q K ph j ad0 n0 c0 s0 (zdrop (zmc j).1 u.toNat) ls st σ) (G2 : ¬ (y < x) → zGo p l e R s m args below meth c Q K ph j ad0 n0 c0 s0 is ls st σ) : W p l e R s m args below meth c H locs (σ.2.2.1 - c0) (σ.2.2.2.1 - s0) Q (F0 m pc lm sm) := by
  obtain ⟨hx, hb, hml, hown, hts, hcst, -⟩ := C
  obtain ⟨tg, h1, h2⟩ := ztg_ok hj
  obtain ⟨w1, ws1, rfl, ⟨rfl, r1⟩, hR1⟩ := zRels_cons hR
  obtain ⟨w2, ws2, rfl, ⟨rfl, r2⟩, hR2⟩ := zRels_cons hR1
  refine lv_icmp_gt hx hb hd h2 (fun h => ?_) (fun h => ?_)
  · exact G1 ((zi_lt r1 r2).mp h) ad H locs lm _ _ _ hag rfl (Or.inr h1) hP hS hL hR2 hn hc hs
  · exact G2 (fun z => h ((zi_lt r1 r2).mpr z)) ad H locs lm _ _ _ hag hi hpc hP hS hL hR2 hn hc hs
theorem zs_if_gt {f u x a : Int} (hd : decode (zmb j) pc = .ok (.ifCond .gt f, 3)) (hj : ztg (zpc j) pc f u = true) (hi : is = zdrop (zmc j).1 (t + 1)) (hpc : is = [] ∨ (zpc j)[t + 1]? = some (pc + 3)) (C : zAct p l R s m args meth c K j d) (hag : zag ad0 ad n0) (hP : zPic K ph ad σ H) (hS : va_S K.A s.heap H locs) (hL : zLoc K ad σ.2.2.2.2.1 lm (zml j) ls) (hR : zRels K ad σ.2.2.2.2.1 ((0, x, a) :: st) sm) (hn : n0 ≤ σ.2.2.2.2.1) (hc : c0 ≤ σ.2.2.1) (hs : s0 ≤ σ.2.2.2.1) (G1 : 0 < x → zGo p l e R s m args below meth c Q K ph j ad0 n0 c0 s0 (zdrop (zmc j).1 u.toNat) ls st σ) (G2 : ¬ (0 < x) → zGo p l e R s m args below meth c Q K ph j ad0 n0 c0 s0 is ls st σ) : W p l e R s m args below meth c H locs (σ.2.2.1 - c0) (σ.2.2.2.1 - s0) Q (F0 m pc lm sm) := by
  obtain ⟨hx, hb, hml, hown, hts, hcst, -⟩ := C
  obtain ⟨tg, h1, h2⟩ := ztg_ok hj
  obtain ⟨w1, ws1, rfl, ⟨rfl, r1⟩, hR1⟩ := zRels_cons hR
  refine lv_if_gt hx hb hd h2 (fun h => ?_) (fun h => ?_) <;> rw [← zi_0] at h
  · exact G1 ((zi_lt (⟨by omega, by omega⟩ : zI32 0) r1).mp h) ad H locs lm _ _ _ hag rfl (Or.inr h1) hP hS hL hR1 hn hc hs
  · exact G2 (fun z => h ((zi_lt (⟨by omega, by omega⟩ : zI32 0) r1).mpr z)) ad H locs lm _ _ _ hag hi hpc hP hS hL hR1 hn hc hs
theorem zs_icmp_le {f u x y a b : Int} (hd : decode (zmb j) pc = .ok (.if_icmp .le f, 3)) (hj : ztg (zpc j) pc f u = true) (hi : is = zdrop (zmc j).1 (t + 1)) (hpc : is = [] ∨ (zpc j)[t + 1]? = some (pc + 3)) (C : zAct p l R s m args meth c K j d) (hag : zag ad0 ad n0) (hP : zPic K ph ad σ H) (hS : va_S K.A s.heap H locs) (hL : zLoc K ad σ.2.2.2.2.1 lm (zml j) ls) (hR : zRels K ad σ.2.2.2.2.1 ((0, y, b) :: (0, x, a) :: st) sm) (hn : n0 ≤ σ.2.2.2.2.1) (hc : c0 ≤ σ.2.2.1) (hs : s0 ≤ σ.2.2.2.1) (G1 : x ≤ y → zGo p l e R s m args below meth c Q K ph j ad0 n0 c0 s0 (zdrop (zmc j).1 u.toNat) ls st σ) (G2 : ¬ (x ≤ y) → zGo p l e R s m args below meth c Q K ph j ad0 n0 c0 s0 is ls st σ) : W p l e R s m args below meth c H locs (σ.2.2.1 - c0) (σ.2.2.2.1 - s0) Q (F0 m pc lm sm) := by
  obtain ⟨hx, hb, hml, hown, hts, hcst, -⟩ := C
  obtain ⟨tg, h1, h2⟩ := ztg_ok hj
  obtain ⟨w1, ws1, rfl, ⟨rfl, r1⟩, hR1⟩ := zRels_cons hR
  obtain ⟨w2, ws2, rfl, ⟨rfl, r2⟩, hR2⟩ := zRels_cons hR1
  refine lv_icmp_le hx hb hd h2 (fun h => ?_) (fun h => ?_)
  · exact G1 ((zi_le r2 r1).mp h) ad H locs lm _ _ _ hag rfl (Or.inr h1) hP hS hL hR2 hn hc hs
  · exact G2 (fun z => h ((zi_le r2 r1).mpr z)) ad H locs lm _ _ _ hag hi hpc hP hS hL hR2 hn hc hs
theorem zs_if_le {f u x a : Int} (hd : decode (zmb j) pc = .ok (.ifCond .le f, 3)) (hj : ztg (zpc j) pc f u = true) (hi : is = zdrop (zmc j).1 (t + 1)) (hpc : is = [] ∨ (zpc j)[t + 1]? = some (pc + 3)) (C : zAct p l R s m args meth c K j d) (hag : zag ad0 ad n0) (hP : zPic K ph ad σ H) (hS : va_S K.A s.heap H locs) (hL : zLoc K ad σ.2.2.2.2.1 lm (zml j) ls) (hR : zRels K ad σ.2.2.2.2.1 ((0, x, a) :: st) sm) (hn : n0 ≤ σ.2.2.2.2.1) (hc : c0 ≤ σ.2.2.1) (hs : s0 ≤ σ.2.2.2.1) (G1 : x ≤ 0 → zGo p l e R s m args below meth c Q K ph j ad0 n0 c0 s0 (zdrop (zmc j).1 u.toNat) ls st σ) (G2 : ¬ (x ≤ 0) → zGo p l e R s m args below meth c Q K ph j ad0 n0 c0 s0 is ls st σ) : W p l e R s m args below meth c H locs (σ.2.2.1 - c0) (σ.2.2.2.1 - s0) Q (F0 m pc lm sm) := by
  obtain ⟨hx, hb, hml, hown, hts, hcst, -⟩ := C
  obtain ⟨tg, h1, h2⟩ := ztg_ok hj
  obtain ⟨w1, ws1, rfl, ⟨rfl, r1⟩, hR1⟩ := zRels_cons hR
  refine lv_if_le hx hb hd h2 (fun h => ?_) (fun h => ?_) <;> rw [← zi_0] at h
  · exact G1 ((zi_le r1 (⟨by omega, by omega⟩ : zI32 0)).mp h) ad H locs lm _ _ _ hag rfl (Or.inr h1) hP hS hL hR1 hn hc hs
  · exact G2 (fun z => h ((zi_le r1 (⟨by omega, by omega⟩ : zI32 0)).mpr z)) ad H locs lm _ _ _ hag hi hpc hP hS hL hR1 hn hc hs
theorem zwd_eq {K : zCx} {s : State} (hc : zCst K s) {x y : Int} (hx : -1 ≤ x ∧ x < 33) (hy : -1 ≤ y ∧ y < 33) : ((if x < 0 then none else some (K.adW x.toNat)) = (if y < 0 then none else some (K.adW y.toNat))) ↔ x = y := by
  have hinj := hc.2.2.2.2.2.2.2.1
  constructor
  · intro h
    by_cases h1 : x < 0
    · by_cases h2 : y < 0
      · omega
      · rw [if_pos h1, if_neg h2] at h; cases h
    · by_cases h2 : y < 0
      · rw [if_neg h1, if_pos h2] at h; cases h
      · rw [if_neg h1, if_neg h2] at h
        have := hinj x.toNat y.toNat (by omega) (by omega) (Option.some.inj h)
        omega
  · intro h; rw [h]
theorem zs_acmp_eq {f u x y a b : Int} (hd : decode (zmb j) pc = .ok (.if_acmp .eq f, 3)) (hj : ztg (zpc j) pc f u = true) (hi : is = zdrop (zmc j).1 (t + 1)) (hpc : is = [] ∨ (zpc j)[t + 1]? = some (pc + 3)) (C : zAct p l R s m args meth c K j d) (hag : zag ad0 ad n0) (hP : zPic K ph ad σ H) (hS : va_S K.A s.heap H locs) (hL : zLoc K ad σ.2.2.2.2.1 lm (zml j) ls) (hR : zRels K ad σ.2.2.2.2.1 ((5, y, b) :: (5, x, a) :: st) sm) (hn : n0 ≤ σ.2.2.2.2.1) (hc : c0 ≤ σ.2.2.1) (hs : s0 ≤ σ.2.2.2.1) (G1 : x = y → zGo p l e R s m args below meth c Q K ph j ad0 n0 c0 s0 (zdrop (zmc j).1 u.toNat) ls st σ) (G2 : ¬ (x = y) → zGo p l e R s m args below meth c Q K ph j ad0 n0 c0 s0 is ls st σ) : W p l e R s m args below meth c H locs (σ.2.2.1 - c0) (σ.2.2.2.1 - s0) Q (F0 m pc lm sm) := by
  obtain ⟨hx, hb, hml, hown, hts, hcst, -⟩ := C
  obtain ⟨tg, h1, h2⟩ := ztg_ok hj
  obtain ⟨w1, ws1, rfl, ⟨rfl, r1⟩, hR1⟩ := zRels_cons hR
  obtain ⟨w2, ws2, rfl, ⟨rfl, r2⟩, hR2⟩ := zRels_cons hR1
  refine lv_acmp_eq hx hb hd h2 (fun h => ?_) (fun h => ?_)
  · exact G1 ((zwd_eq hcst r2 r1).mp h) ad H locs lm _ _ _ hag rfl (Or.inr h1) hP hS hL hR2 hn hc hs
  · exact G2 (fun z => h ((zwd_eq hcst r2 r1).mpr z)) ad H locs lm _ _ _ hag hi hpc hP hS hL hR2 hn hc hs
theorem zs_acmp_ne {f u x y a b : Int} (hd : decode (zmb j) pc = .ok (.if_acmp .ne f, 3)) (hj : ztg (zpc j) pc f u = true) (hi : is = zdrop (zmc j).1 (t + 1)) (hpc : is = [] ∨ (zpc j)[t + 1]? = some (pc + 3)) (C : zAct p l R s m args meth c K j d) (hag : zag ad0 ad n0) (hP : zPic K ph ad σ H) (hS : va_S K.A s.heap H locs) (hL : zLoc K ad σ.2.2.2.2.1 lm (zml j) ls) (hR : zRels K ad σ.2.2.2.2.1 ((5, y, b) :: (5, x, a) :: st) sm) (hn : n0 ≤ σ.2.2.2.2.1) (hc : c0 ≤ σ.2.2.1) (hs : s0 ≤ σ.2.2.2.1) (G1 : x ≠ y → zGo p l e R s m args below meth c Q K ph j ad0 n0 c0 s0 (zdrop (zmc j).1 u.toNat) ls st σ) (G2 : ¬ (x ≠ y) → zGo p l e R s m args below meth c Q K ph j ad0 n0 c0 s0 is ls st σ) : W p l e R s m args below meth c H locs (σ.2.2.1 - c0) (σ.2.2.2.1 - s0) Q (F0 m pc lm sm) := by
  obtain ⟨hx, hb, hml, hown, hts, hcst, -⟩ := C
  obtain ⟨tg, h1, h2⟩ := ztg_ok hj
  obtain ⟨w1, ws1, rfl, ⟨rfl, r1⟩, hR1⟩ := zRels_cons hR
  obtain ⟨w2, ws2, rfl, ⟨rfl, r2⟩, hR2⟩ := zRels_cons hR1
  refine lv_acmp_ne hx hb hd h2 (fun h => ?_) (fun h => ?_)
  · exact G1 (fun z => h ((zwd_eq hcst r2 r1).mpr z)) ad H locs lm _ _ _ hag rfl (Or.inr h1) hP hS hL hR2 hn hc hs
  · exact G2 (fun z => z ((zwd_eq hcst r2 r1).mp h)) ad H locs lm _ _ _ hag hi hpc hP hS hL hR2 hn hc hs
theorem zs_ifnull4 {f u x a : Int} (hd : decode (zmb j) pc = .ok (.ifnull f, 3)) (hj : ztg (zpc j) pc f u = true) (C : zAct p l R s m args meth c K j d) (hag : zag ad0 ad n0) (hP : zPic K ph ad σ H) (hS : va_S K.A s.heap H locs) (hL : zLoc K ad σ.2.2.2.2.1 lm (zml j) ls) (hR : zRels K ad σ.2.2.2.2.1 ((4, x, a) :: st) sm) (hn : n0 ≤ σ.2.2.2.2.1) (hc : c0 ≤ σ.2.2.1) (hs : s0 ≤ σ.2.2.2.1) (G1 : zGo p l e R s m args below meth c Q K ph j ad0 n0 c0 s0 (zdrop (zmc j).1 u.toNat) ls st σ) : W p l e R s m args below meth c H locs (σ.2.2.1 - c0) (σ.2.2.2.1 - s0) Q (F0 m pc lm sm) := by
  obtain ⟨hx, hb, hml, hown, hts, hcst, -⟩ := C
  obtain ⟨tg, h1, h2⟩ := ztg_ok hj
  obtain ⟨w1, ws1, rfl, rfl, hR1⟩ := zRels_cons hR
  refine lv_ifnullN hx hb hd h2 ?_
  exact G1 ad H locs lm _ _ _ hag rfl (Or.inr h1) hP hS hL hR1 hn hc hs
theorem zs_ifnull5 {f u x a : Int} (hd : decode (zmb j) pc = .ok (.ifnull f, 3)) (hj : ztg (zpc j) pc f u = true) (hi : is = zdrop (zmc j).1 (t + 1)) (hpc : is = [] ∨ (zpc j)[t + 1]? = some (pc + 3)) (C : zAct p l R s m args meth c K j d) (hag : zag ad0 ad n0) (hP : zPic K ph ad σ H) (hS : va_S K.A s.heap H locs) (hL : zLoc K ad σ.2.2.2.2.1 lm (zml j) ls) (hR : zRels K ad σ.2.2.2.2.1 ((5, x, a) :: st) sm) (hn : n0 ≤ σ.2.2.2.2.1) (hc : c0 ≤ σ.2.2.1) (hs : s0 ≤ σ.2.2.2.1) (G1 : x < 0 → zGo p l e R s m args below meth c Q K ph j ad0 n0 c0 s0 (zdrop (zmc j).1 u.toNat) ls st σ) (G2 : ¬ (x < 0) → zGo p l e R s m args below meth c Q K ph j ad0 n0 c0 s0 is ls st σ) : W p l e R s m args below meth c H locs (σ.2.2.1 - c0) (σ.2.2.2.1 - s0) Q (F0 m pc lm sm) := by
  obtain ⟨hx, hb, hml, hown, hts, hcst, -⟩ := C
  obtain ⟨tg, h1, h2⟩ := ztg_ok hj
  obtain ⟨w1, ws1, rfl, ⟨rfl, r1⟩, hR1⟩ := zRels_cons hR
  by_cases h : x < 0
  · rw [if_pos h]
    refine lv_ifnullN hx hb hd h2 ?_
    exact G1 h ad H locs lm _ _ _ hag rfl (Or.inr h1) hP hS hL hR1 hn hc hs
  · rw [if_neg h]
    refine lv_ifnull hx hb hd ?_
    exact G2 h ad H locs lm _ _ _ hag hi hpc hP hS hL hR1 hn hc hs
theorem zs_ifnull10 {f x a : Int} {k : Nat} (hd : decode (zmb j) pc = .ok (.ifnull f, 3)) (hk : 10 ≤ k) (hi : is = zdrop (zmc j).1 (t + 1)) (hpc : is = [] ∨ (zpc j)[t + 1]? = some (pc + 3)) (C : zAct p l R s m args meth c K j d) (hag : zag ad0 ad n0) (hP : zPic K ph ad σ H) (hS : va_S K.A s.heap H locs) (hL : zLoc K ad σ.2.2.2.2.1 lm (zml j) ls) (hR : zRels K ad σ.2.2.2.2.1 ((k, x, a) :: st) sm) (hn : n0 ≤ σ.2.2.2.2.1) (hc : c0 ≤ σ.2.2.1) (hs : s0 ≤ σ.2.2.2.1) (G2 : zGo p l e R s m args below meth c Q K ph j ad0 n0 c0 s0 is ls st σ) : W p l e R s m args below meth c H locs (σ.2.2.1 - c0) (σ.2.2.2.1 - s0) Q (F0 m pc lm sm) := by
  obtain ⟨hx, hb, hml, hown, hts, hcst, -⟩ := C
  obtain ⟨w1, ws1, rfl, r1, hR1⟩ := zRels_cons hR
  have hw : ∃ q, w1 = .ref q := by
    by_cases h35 : k = 35
    · subst h35; exact ⟨_, r1.1⟩
    · exact ⟨_, ((zRel_o hk (by have := zRel_ge r1 hk; omega)).mp r1).1⟩
  obtain ⟨q, rfl⟩ := hw
  refine lv_ifnull hx hb hd ?_
  exact G2 ad H locs lm _ _ _ hag hi hpc hP hS hL hR1 hn hc hs
theorem ztgs_ok {pcs : List Nat} {pc : Nat} : ∀ {l k : List Int}, ztgs pcs pc l k = true → l.length = k.length ∧ ∀ (i : Nat) (f : Int), l[i]? = some f → ∃ u : Int, k[i]? = some u ∧ ztg pcs pc f u = true := by
  intro l
  induction l with
  | nil =>
    intro k h
    cases k with
    | nil => exact ⟨rfl, fun i f hf => by simp at hf⟩
    | cons b k => simp [ztgs] at h
  | cons a l ih =>
    intro k h
    cases k with
    | nil => simp [ztgs] at h
    | cons b k =>
      rw [ztgs, Bool.and_eq_true] at h
      obtain ⟨h1, h2⟩ := ih h.2
      refine ⟨by simp [h1], fun i f hf => ?_⟩
      cases i with
      | zero =>
        simp only [List.getElem?_cons_zero, Option.some.injEq] at hf
        subst hf
        exact ⟨b, rfl, h.1⟩
      | succ i =>
        simp only [List.getElem?_cons_succ] at hf ⊢
        exact h2 i f hf
theorem zs_tableswitch {f u lo hi x a : Int} {o o2 : Array Int} {len : Nat} (hd : decode (zmb j) pc = .ok (.tableswitch f lo hi o2, len)) (hlen : hi - lo + 1 = (o2.toList.length : Int)) (hj : ztg (zpc j) pc f u = true) (hj2 : ztgs (zpc j) pc o2.toList o.toList = true) (C : zAct p l R s m args meth c K j d) (hag : zag ad0 ad n0) (hP : zPic K ph ad σ H) (hS : va_S K.A s.heap H locs) (hL : zLoc K ad σ.2.2.2.2.1 lm (zml j) ls) (hR : zRels K ad σ.2.2.2.2.1 ((0, x, a) :: st) sm) (hn : n0 ≤ σ.2.2.2.2.1) (hc : c0 ≤ σ.2.2.1) (hs : s0 ≤ σ.2.2.2.1) (G : zGo p l e R s m args below meth c Q K ph j ad0 n0 c0 s0 (zdrop (zmc j).1 (zsw u lo hi o x)) ls st σ) : W p l e R s m args below meth c H locs (σ.2.2.1 - c0) (σ.2.2.2.1 - s0) Q (F0 m pc lm sm) := by
  obtain ⟨hx, hb, hml, hown, hts, hcst, -⟩ := C
  obtain ⟨w1, ws1, rfl, ⟨rfl, r1⟩, hR1⟩ := zRels_cons hR
  have ex := zi_toInt r1
  by_cases h : x < lo ∨ hi < x
  · obtain ⟨tg, h1, h2⟩ := ztg_ok hj
    refine lv_tableOut hx hb hd (by rw [ex]; exact h) h2 ?_
    refine G ad H locs lm _ _ _ hag rfl (Or.inr ?_) hP hS hL hR1 hn hc hs
    unfold zsw
    rw [if_pos h]
    exact h1
  · obtain ⟨e1, e2⟩ := ztgs_ok hj2
    have hl : (x - lo).toNat < o2.toList.length := by omega
    obtain ⟨v, e3, e4⟩ := e2 (x - lo).toNat _ (List.getElem?_eq_getElem hl)
    obtain ⟨tg, h1, h2⟩ := ztg_ok e4
    refine lv_tableIn hx hb hd (by rw [ex]; omega) (by rw [ex]; omega) (off := o2.toList[(x - lo).toNat]) (by rw [ex, ← Array.getElem?_toList]; exact List.getElem?_eq_getElem hl) h2 ?_
    refine G ad H locs lm _ _ _ hag rfl (Or.inr ?_) hP hS hL hR1 hn hc hs
    unfold zsw
    rw [if_neg h, List.getD_eq_getElem?_getD, e3]
    exact h1
theorem zlk_off1 {a : Int × Int} {l : List (Int × Int)} {f x : Int} (h : x = a.1) : Op.lookupswitch.offset (a :: l) f x = a.2 := by
  simp [Op.lookupswitch.offset, h]
theorem zlk_off2 {a : Int × Int} {l : List (Int × Int)} {f x : Int} (h : ¬ x = a.1) : Op.lookupswitch.offset (a :: l) f x = Op.lookupswitch.offset l f x := by
  have h2 : ¬ a.1 = x := fun z => h z.symm
  simp [Op.lookupswitch.offset, h2]
theorem ztgp_ok {pcs : List Nat} {pc : Nat} {f u : Int} (hj : ztg pcs pc f u = true) (x : Int) : ∀ {l k : List (Int × Int)}, ztgp pcs pc l k = true → ∃ p : Nat, pcs[zlk u k x]? = some p ∧ (pc : Int) + Op.lookupswitch.offset l f x = (p : Int) := by
  intro l
  induction l with
  | nil =>
    intro k h
    cases k with
    | nil =>
      obtain ⟨p, h1, h2⟩ := ztg_ok hj
      exact ⟨p, h1, h2⟩
    | cons b k => simp [ztgp] at h
  | cons a l ih =>
    intro k h
    cases k with
    | nil => simp [ztgp] at h
    | cons b k =>
      simp only [ztgp, Bool.and_eq_true, decide_eq_true_eq] at h
      obtain ⟨⟨h1, h2⟩, h3⟩ := h
      by_cases hxa : x = b.1
      · obtain ⟨p, e1, e2⟩ := ztg_ok h2
        refine ⟨p, by simp only [zlk, if_pos hxa]; exact e1, ?_⟩
        rw [← e2, zlk_off1 (by rw [hxa, h1])]
      · obtain ⟨p, e1, e2⟩ := ih h3
        refine ⟨p, by simp only [zlk, if_neg hxa]; exact e1, ?_⟩
        rw [← e2, zlk_off2 (by rw [h1]; exact fun z => hxa z)]
theorem zs_lookupswitch {f u x a : Int} {o o2 : Array (Int × Int)} {len : Nat} (hd : decode (zmb j) pc = .ok (.lookupswitch f o2, len)) (hinc : (o2.toList.zip (o2.toList.drop 1)).all (fun (a, next) => a.1 < next.1) = true) (hj : ztg (zpc j) pc f u = true) (hj2 : ztgp (zpc j) pc o2.toList o.toList = true) (C : zAct p l R s m args meth c K j d) (hag : zag ad0 ad n0) (hP : zPic K ph ad σ H) (hS : va_S K.A s.heap H locs) (hL : zLoc K ad σ.2.2.2.2.1 lm (zml j) ls) (hR : zRels K ad σ.2.2.2.2.1 ((0, x, a) :: st) sm) (hn : n0 ≤ σ.2.2.2.2.1) (hc : c0 ≤ σ.2.2.1) (hs : s0 ≤ σ.2.2.2.1) (G : zGo p l e R s m args below meth c Q K ph j ad0 n0 c0 s0 (zdrop (zmc j).1 (zlk u o.toList x)) ls st σ) : W p l e R s m args below meth c H locs (σ.2.2.1 - c0) (σ.2.2.2.1 - s0) Q (F0 m pc lm sm) := by
  obtain ⟨hx, hb, hml, hown, hts, hcst, -⟩ := C
  obtain ⟨w1, ws1, rfl, ⟨rfl, r1⟩, hR1⟩ := zRels_cons hR
  have ex := zi_toInt r1
  obtain ⟨tg, h1, h2⟩ := ztgp_ok hj x hj2
  refine lv_lookup hx hb hd hinc rfl (by rw [ex]; exact h2) ?_
  exact G ad H locs lm _ _ _ hag rfl (Or.inr h1) hP hS hL hR1 hn hc hs
end ZS
