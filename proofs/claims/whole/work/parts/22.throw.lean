/-! ## what is thrown -/
def zXn : List String := ["java/lang/Exception"]
def zTic : Nat → Nat × Nat
  | 100 => (94, 98)
  | 101 => (104, 108)
  | 102 => (125, 129)
  | 103 => (210, 214)
  | _ => (274, 278)
def zTi9 (k : Nat) : Nat := match k with
  | 103 => 13
  | _ => 7
def zTb9 (k : Nat) : ByteArray := match k with
  | 103 => prog_32_method_4_code
  | _ => Bundle.six
def zXr : String := "java/lang/RuntimeException"
def zTwl (k : Nat) : List Cond := Cond.classLink "CyclicLines" (zTic k).1 (zExN k) :: Cond.initialized (zExN k) :: zat9 "CyclicLines" (zTic k).2 (zExN k) zXr zXn (zTi9 k) (zTb9 k)
def zTw (k : Nat) : Bool := (zTwl k).all (fun w => (goodWord w || zisNw w) && vx_ot w && lw_tbl.any (fun u => decide (u = w)))
theorem zTw_0 : zTw 100 = true := by decide +kernel
theorem zTw_1 : zTw 101 = true := by decide +kernel
theorem zTw_2 : zTw 102 = true := by decide +kernel
theorem zTw_3 : zTw 103 = true := by decide +kernel
theorem zTw_4 : zTw 104 = true := by decide +kernel
theorem zTw_ok {k : Nat} (h0 : 100 ≤ k) (h1 : k < 105) : zTw k = true := by
  have : k = 100 ∨ k = 101 ∨ k = 102 ∨ k = 103 ∨ k = 104 := by omega
  rcases this with rfl | rfl | rfl | rfl | rfl
  · exact zTw_0
  · exact zTw_1
  · exact zTw_2
  · exact zTw_3
  · exact zTw_4
theorem zTw_fit {k : Nat} (h0 : 100 ≤ k) (h1 : k < 105) : Bundle.fit (zExN k) = true := by
  have : k = 100 ∨ k = 101 ∨ k = 102 ∨ k = 103 ∨ k = 104 := by omega
  rcases this with rfl | rfl | rfl | rfl | rfl <;> decide +kernel
theorem zXn_fit : ∀ n ∈ zXn, Bundle.fit n = true := by decide +kernel
theorem zXr_fit : Bundle.fit zXr = true := by decide +kernel
theorem zTb9_ok {k : Nat} (h0 : 100 ≤ k) (h1 : k < 105) : decode (zTb9 k) 0 = .ok (.aload_n 0, 1) ∧ decode (zTb9 k) 1 = .ok (.aload_n 1, 1) ∧ decode (zTb9 k) 2 = .ok (.invokespecial (zTi9 k), 3) ∧ decode (zTb9 k) 5 = .ok (.return_, 1) := by
  have : k = 100 ∨ k = 101 ∨ k = 102 ∨ k = 103 ∨ k = 104 := by omega
  rcases this with rfl | rfl | rfl | rfl | rfl <;> exact ⟨by decide +kernel, by decide +kernel, by decide +kernel, by decide +kernel⟩
def zTs (i : Nat) : Bool := lw_tbl.any (fun w => match w with
  | .stringRef o k _ => Nat.beq k i && decide (o = "CyclicLines")
  | _ => false)
theorem zTs_ok {i : Nat} (h : zTs i = true) : ∃ tx, Cond.stringRef "CyclicLines" i tx ∈ lw_tbl := by
  obtain ⟨w, hw, h1⟩ := List.any_eq_true.mp h
  split at h1
  · rename_i o k tx
    rw [Bool.and_eq_true] at h1
    have e1 := Nat.eq_of_beq_eq_true h1.1
    have e2 := of_decide_eq_true h1.2
    subst e1 e2
    exact ⟨tx, hw⟩
  · cases h1
def zDnew (b : ByteArray) (pc i : Nat) : Bool := match decode b pc with
  | .ok (.new k, 3) => Nat.beq k i
  | _ => false
theorem zDnew_ok {b : ByteArray} {pc i : Nat} (h : zDnew b pc i = true) : decode b pc = .ok (.new i, 3) := by
  unfold zDnew at h
  split at h
  · rename_i k hk
    rw [hk, Nat.eq_of_beq_eq_true h]
  · cases h
def zDdup (b : ByteArray) (pc : Nat) : Bool := match decode b pc with
  | .ok (.dup, 1) => true
  | _ => false
theorem zDdup_ok {b : ByteArray} {pc : Nat} (h : zDdup b pc = true) : decode b pc = .ok (.dup, 1) := by
  unfold zDdup at h
  split at h
  · rename_i hk
    exact hk
  · cases h
def zDthr (b : ByteArray) (pc : Nat) : Bool := match decode b pc with
  | .ok (.athrow, 1) => true
  | _ => false
theorem zDthr_ok {b : ByteArray} {pc : Nat} (h : zDthr b pc = true) : decode b pc = .ok (.athrow, 1) := by
  unfold zDthr at h
  split at h
  · rename_i hk
    exact hk
  · cases h
def zDini (b : ByteArray) (pc i : Nat) : Bool := match decode b pc with
  | .ok (.invokespecial k, 3) => Nat.beq k i
  | _ => false
theorem zDini_ok {b : ByteArray} {pc i : Nat} (h : zDini b pc i = true) : decode b pc = .ok (.invokespecial i, 3) := by
  unfold zDini at h
  split at h
  · rename_i k hk
    rw [hk, Nat.eq_of_beq_eq_true h]
  · cases h
def zDldc (b : ByteArray) (pc : Nat) : Bool := match decode b pc with
  | .ok (.ldc k, 2) => zTs k
  | _ => false
theorem zDldc_ok {b : ByteArray} {pc : Nat} (h : zDldc b pc = true) : ∃ i, decode b pc = .ok (.ldc i, 2) ∧ zTs i = true := by
  unfold zDldc at h
  split at h
  · rename_i k hk
    exact ⟨k, hk, h⟩
  · cases h
def zDldw (b : ByteArray) (pc : Nat) : Bool := match decode b pc with
  | .ok (.ldc_w k, 3) => zTs k
  | _ => false
theorem zDldw_ok {b : ByteArray} {pc : Nat} (h : zDldw b pc = true) : ∃ i, decode b pc = .ok (.ldc_w i, 3) ∧ zTs i = true := by
  unfold zDldw at h
  split at h
  · rename_i k hk
    exact ⟨k, hk, h⟩
  · cases h
def zThj (b : ByteArray) (j pc k : Nat) : Bool := Nat.blt k 105 && Nat.beq (zmo j) 3 && (zmh j).isEmpty && zDnew b pc (zTic k).1 && zDdup b (pc + 3) &&
  ((zDldc b (pc + 4) && zDini b (pc + 6) (zTic k).2 && zDthr b (pc + 9)) || (zDldw b (pc + 4) && zDini b (pc + 7) (zTic k).2 && zDthr b (pc + 10)))
def zThc (j : Nat) : Bool := (List.zip (zpc j) (zmc j).1).all (fun e => match e.2 with
  | .new k => Nat.blt k 100 || zThj (zmb j) j e.1 k
  | _ => true)
theorem zThc_1 : (List.range 158).all (fun i => zThc (1 + i)) = true := by decide +kernel
theorem zThc_159 : (List.range 158).all (fun i => zThc (159 + i)) = true := by decide +kernel
theorem zThc_ok {j : Nat} (h0 : 0 < j) (h : j < 317) : zThc j = true := by
  by_cases h1 : j < 159
  · have := List.all_eq_true.mp zThc_1 (j - 1) (List.mem_range.mpr (by omega))
    rwa [show 1 + (j - 1) = j by omega] at this
  · have := List.all_eq_true.mp zThc_159 (j - 159) (List.mem_range.mpr (by omega))
    rwa [show 159 + (j - 159) = j by omega] at this
theorem zThc_at {j t pc k : Nat} (h0 : 0 < j) (h : j < 317) (hat : (zmc j).1[t]? = some (.new k)) (hpc : (zpc j)[t]? = some pc) (h100 : 100 ≤ k) : zThj (zmb j) j pc k = true := by
  have h1 := List.all_eq_true.mp (zThc_ok h0 h) (pc, Instr.new k) (List.mem_of_getElem? (i := t) (by rw [List.getElem?_zip_eq_some]; exact ⟨hpc, hat⟩))
  have h2 : (Nat.blt k 100 || zThj (zmb j) j pc k) = true := h1
  rw [Bool.or_eq_true] at h2
  refine h2.resolve_left (fun z => ?_)
  have := Nat.le_of_ble_eq_true z
  omega
/-- the heap's picture stays when cells come behind it -/
theorem zPic.grow {K : zCx} {ph : Bool} {ad : Nat → Nat} {σ : zS} {c1 s1 : Nat} {H H1 : Heap} (h : zPic K ph ad σ H) (hq : ∀ q : Nat, q < H.size → H1[q]? = H[q]?) : zPic K ph ad (σ.1, σ.2.1, c1, s1, σ.2.2.2.2) H1 := by
  obtain ⟨h1, h2, h3⟩ := h
  exact ⟨h1.kept (fun k q hk => hq _ (vx_lt h1 hk)), h2, h3⟩
section ZT
variable {p : Program} {l : Launch} {e : Env} {R : Room} {s : State} {m : MethodId} {args : Array Value} {below : List Frame} {meth : Method} {c : Code} {K : zCx} {ph : Bool} {j d : Nat} {ad0 : Nat → Nat} {n0 c0 s0 : Nat}
variable {ls st : List zV} {σ : zS} {ad : Nat → Nat} {H : Heap} {locs : List Loc} {lm : Array Slot} {sm : List Value} {pc t : Nat}
theorem zs_throw {k : Nat} {y1 y2 : Int} {Q : Array Value → State → Outcome → State → Prop} (h100 : 100 ≤ k) (h0 : 0 < j) (h1 : j < 317) (hat : (zmc j).1[t]? = some (.new k)) (hpc : (zpc j)[t]? = some pc) (hht : zHt c j)
    (hRc : σ.2.2.1 + 1 - c0 ≤ R.cells) (hRs : σ.2.2.2.1 + 6 - s0 ≤ R.slots)
    (C : zAct p l R s m args meth c K j d) (hag : zag ad0 ad n0) (hP : zPic K ph ad σ H) (hS : va_S K.A s.heap H locs) (hL : zLoc K ad σ.2.2.2.2.1 lm (zml j) ls) (hn : n0 ≤ σ.2.2.2.2.1) (hc : c0 ≤ σ.2.2.1) (hs : s0 ≤ σ.2.2.2.1) :
    W p l e R s m args below meth c H locs (σ.2.2.1 - c0) (σ.2.2.2.1 - s0) (vx_MQ below Q (zXC K ph ad0 n0 ((k, y1, y2), (σ.1, σ.2.1, σ.2.2.1 + 1, σ.2.2.2.1 + 6, σ.2.2.2.2))) args s (σ.2.2.1 + 1 - c0) (σ.2.2.2.1 + 6 - s0) K.A) (F0 m pc lm []) := by
  obtain ⟨hx, hb, hml, hown, hts, hcst, hst, hlk, hret, -, hfr, hlo⟩ := C
  have hz := zThc_at h0 h1 hat hpc h100
  unfold zThj at hz
  rw [Bool.and_eq_true, Bool.and_eq_true, Bool.and_eq_true, Bool.and_eq_true, Bool.and_eq_true] at hz
  obtain ⟨⟨⟨⟨⟨z1, z2⟩, z3⟩, z4⟩, z5⟩, z6⟩ := hz
  have hk5 : k < 105 := Nat.le_of_ble_eq_true z1
  have ho := Nat.eq_of_beq_eq_true z2
  rw [ho] at hown
  have hown : s.vm.findClass "CyclicLines" = some m.cls := hown
  have htw := zTw_ok h100 hk5
  have hw : ∀ w ∈ zTwl k, vx_ot w = true ∧ w.before args s = true := by
    intro w hw
    have h9 := List.all_eq_true.mp htw w hw
    rw [Bool.and_eq_true, Bool.and_eq_true, Bool.or_eq_true] at h9
    obtain ⟨⟨g1, g2⟩, g3⟩ := h9
    obtain ⟨u, hu, g4⟩ := List.any_eq_true.mp g3
    have g4 := of_decide_eq_true g4
    subst g4
    refine ⟨g2, ?_⟩
    rcases g1 with g1 | g1
    · exact hts u hu g1
    · refine va_Nw.use ?_ (hcst.2.1 u hu g1)
      cases u <;> first | rfl | (simp [zisNw] at g1)
  have hempty : c.exceptionTable.toList = [] := by
    have e9 : c.exceptionTable.toList.map (fun x => (x.startPc, x.endPc, x.handlerPc, x.catchType)) = zmh j := hht
    have e8 : zmh j = [] := by
      cases hz9 : zmh j with
      | nil => rfl
      | cons a b => rw [hz9] at z3; cases z3
    rw [e8] at e9
    exact List.map_eq_nil_iff.mp e9
  have hout : ∀ (x : ExceptionTableEntry), x ∈ c.exceptionTable.toList → ∀ z : Nat, covers x z = false := fun x hx => by rw [hempty] at hx; cases hx
  have hX : ∀ U : State, s.vm.Alike U.vm → H.size ≤ U.heap.size → (∀ q : Nat, q < H.size → U.heap[q]? = H[q]?) → zXC K ph ad0 n0 ((k, y1, y2), (σ.1, σ.2.1, σ.2.2.1 + 1, σ.2.2.2.1 + 6, σ.2.2.2.2)) (zExN k) s U := by
    intro U _ hsz hq
    refine ⟨⟨h100, hk5⟩, rfl, ⟨ad, hag, hP.grow hq⟩, ⟨Nat.le_trans hS.1 hsz, fun q h5 h6 => ?_⟩, hn⟩
    rw [hq q (Nat.lt_of_lt_of_le h5 hS.1)]
    exact hS.2.1 q h5 h6
  have hz1 := hw _ List.mem_cons_self
  have hz2 := hw _ (List.mem_cons_of_mem _ List.mem_cons_self)
  have hz3 : ∀ w ∈ zat9 "CyclicLines" (zTic k).2 (zExN k) zXr zXn (zTi9 k) (zTb9 k), w.before args s = true := fun w h => (hw w (List.mem_cons_of_mem _ (List.mem_cons_of_mem _ h))).2
  have hfr3 : zXn.length + 4 < R.frames := by
    show 1 + 4 < R.frames
    omega
  have hlo3 : (([] : List Value).map fun v => v.category).sum + (13 * (zXn.length + 2) + 43) ≤ R.locals := by
    show 0 + (13 * (1 + 2) + 43) ≤ R.locals
    omega
  obtain ⟨t0, t1, t2, t5⟩ := zTb9_ok h100 hk5
  have hend : ∀ (pc2 : Nat) (q : Nat) (ce : Cell) (H1 : Heap), decode (zmb j) pc2 = .ok (.athrow, 1) → H1[q]? = some ce → ce.vm = .none → s.vm.findClass (zExN k) = some ce.cls → H.size ≤ H1.size → (∀ x : Nat, x < H.size → H1[x]? = H[x]?) → va_S K.A s.heap H1 locs →
      W p l e R s m args below meth c H1 locs (σ.2.2.1 - c0 + 1) (σ.2.2.2.1 - s0 + 6) (vx_MQ below Q (zXC K ph ad0 n0 ((k, y1, y2), (σ.1, σ.2.1, σ.2.2.1 + 1, σ.2.2.2.1 + 6, σ.2.2.2.2))) args s (σ.2.2.1 + 1 - c0) (σ.2.2.2.1 + 6 - s0) K.A) (F0 m pc2 lm [.ref q]) := by
    intro pc2 q ce H1 hdt u1 u2 u3 u4 u5 u6
    refine vx_athrow hx hb hdt (vx_out (fun x h => hout x h _) hlk u1 u2 u3 (fun U hU hal => hX U hal (by rw [hU]; exact u4) (fun q hq => by rw [hU]; exact u5 q hq)) u6.2.2 (by omega) (by omega))
  rw [Bool.or_eq_true, Bool.and_eq_true, Bool.and_eq_true, Bool.and_eq_true, Bool.and_eq_true] at z6
  rcases z6 with ⟨⟨d4, d6⟩, d9⟩ | ⟨⟨d4, d6⟩, d9⟩
  · obtain ⟨i, d4, g4⟩ := zDldc_ok d4
    obtain ⟨tx, g5⟩ := zTs_ok g4
    obtain ⟨sa, g6⟩ := hcst.2.2.2.2.2.1 _ g5 _ _ _ rfl
    exact zx_new hx hb hst hown (zTw_fit h100 hk5) zXn_fit hz1.2 hz2.2 g6 hz3 (fun w h => (hw w h).1) zXr_fit t0 t1 t2 t5 hcst.2.2.2.2.2.2.2.2.2.2.2.1.1 hcst.2.2.2.2.2.2.2.2.2.2.2.1.2 hS (hL.1.trans hml.symm)
      (zDnew_ok z4) (zDdup_ok z5) d4 (zDini_ok d6) hfr3 hlo3 (by omega) (by omega) (fun q ce H1 u1 u2 u3 u4 u5 u6 => hend _ q ce H1 (zDthr_ok d9) u1 u2 u3 u4 u5 u6)
  · obtain ⟨i, d4, g4⟩ := zDldw_ok d4
    obtain ⟨tx, g5⟩ := zTs_ok g4
    obtain ⟨sa, g6⟩ := hcst.2.2.2.2.2.1 _ g5 _ _ _ rfl
    exact zx_newW hx hb hst hown (zTw_fit h100 hk5) zXn_fit hz1.2 hz2.2 g6 hz3 (fun w h => (hw w h).1) zXr_fit t0 t1 t2 t5 hcst.2.2.2.2.2.2.2.2.2.2.2.1.1 hcst.2.2.2.2.2.2.2.2.2.2.2.1.2 hS (hL.1.trans hml.symm)
      (zDnew_ok z4) (zDdup_ok z5) d4 (zDini_ok d6) hfr3 hlo3 (by omega) (by omega) (fun q ce H1 u1 u2 u3 u4 u5 u6 => hend _ q ce H1 (zDthr_ok d9) u1 u2 u3 u4 u5 u6)
end ZT
