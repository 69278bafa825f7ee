/-! ## words, texts, the row of words, Object's own constructor -/
theorem zGL_rng : zGL.all (fun e => Nat.blt e.2.2.1 33 || (Nat.ble 100 e.2.2.1 && Nat.blt e.2.2.1 103)) = true := by decide +kernel
theorem zGL_any {o i k : Nat} (h : zGL.any (fun e => Nat.beq e.1 o && Nat.beq e.2.1 i && Nat.beq e.2.2.1 k) = true) :
    ((Cond.fieldLink (zcn o) i (zsn k).1 (zsn k).2.1 (zsn k).2.2 ∈ lw_tbl ∧ goodWord (Cond.fieldLink (zcn o) i (zsn k).1 (zsn k).2.1 (zsn k).2.2) = true) ∨ Cond.fieldLinkNest (zcn o) i (zsn k).1 (zsn k).2.1 (zsn k).2.2 "CyclicLines" ∈ lw_tbl) ∧ (k < 33 ∨ (100 ≤ k ∧ k < 103)) := by
  obtain ⟨q, hq, h1⟩ := List.any_eq_true.mp h
  simp only [Bool.and_eq_true, Nat.beq_eq_true_eq] at h1
  obtain ⟨⟨e1, e2⟩, e3⟩ := h1
  have e1 := Nat.eq_of_beq_eq_true e1
  have e2 := Nat.eq_of_beq_eq_true e2
  have e3 := Nat.eq_of_beq_eq_true e3
  subst e1 e2 e3
  have h2 := List.all_eq_true.mp zGL_ok q hq
  have h3 := List.all_eq_true.mp zGL_rng q hq
  refine ⟨?_, ?_⟩
  · unfold zGLc at h2
    split at h2
    · exact Or.inl (zgw_ok h2)
    · exact Or.inr (zbw_ok h2)
  · simpa [Bool.or_eq_true, Bool.and_eq_true, Nat.blt_eq, Nat.ble_eq] using h3
theorem zWtx_ok : ∀ i : Nat, i < 33 → 0 ≤ zWtx (i : Int) ∧ zWtx (i : Int) < 31 := by
  have h : (List.range 33).all (fun i => decide (0 ≤ zWtx (i : Int) ∧ zWtx (i : Int) < 31)) = true := by decide +kernel
  intro i hi
  exact of_decide_eq_true (List.all_eq_true.mp h i (List.mem_range.mpr hi))
theorem zWfc_ok : ∀ i : Nat, i < 33 → zI32 (zWfc (i : Int)) := by
  have h : (List.range 33).all (fun i => decide (-2147483648 ≤ zWfc (i : Int) ∧ zWfc (i : Int) < 2147483648)) = true := by decide +kernel
  intro i hi
  exact of_decide_eq_true (p := -2147483648 ≤ zWfc (i : Int) ∧ zWfc (i : Int) < 2147483648) (List.all_eq_true.mp h i (List.mem_range.mpr hi))
theorem zTx_ok : ∀ i : Nat, i < 31 → (zTx (i : Int)).length ≤ 20 ∧ ∀ k : Nat, k < (zTx (i : Int)).length → 0 ≤ (zTx (i : Int)).getD k 0 ∧ (zTx (i : Int)).getD k 0 < 128 := by
  have h : (List.range 31).all (fun i => decide ((zTx (i : Int)).length ≤ 20) && (List.range (zTx (i : Int)).length).all (fun k => decide (0 ≤ (zTx (i : Int)).getD k 0 ∧ (zTx (i : Int)).getD k 0 < 128))) = true := by decide +kernel
  intro i hi
  have h1 := List.all_eq_true.mp h i (List.mem_range.mpr hi)
  rw [Bool.and_eq_true] at h1
  exact ⟨of_decide_eq_true h1.1, fun k hk => of_decide_eq_true (List.all_eq_true.mp h1.2 k (List.mem_range.mpr hk))⟩
section ZC
variable {p : Program} {l : Launch} {e : Env} {R : Room} {s : State} {m : MethodId} {args : Array Value} {below : List Frame} {meth : Method} {c : Code} {Q : State → Prop} {K : zCx} {ph : Bool} {j d : Nat} {ad0 : Nat → Nat} {n0 c0 s0 : Nat}
variable {is : zL} {ls st : List zV} {σ : zS} {ad : Nat → Nat} {H : Heap} {locs : List Loc} {lm : Array Slot} {sm : List Value} {pc t : Nat}
/-- a field of an object that stands since before -/
theorem zget_of {o n' d' : String} {v : Value} {q i : Nat} {rest : List Value} {c1 s1 : Nat} (hE : va_OF o n' d' v q K.A s s.heap) (hS : va_S K.A s.heap H locs) (C : zAct p l R s m args meth c K j d) (hd : decode (zmb j) pc = .ok (.getfield i, 3))
    (hw : (Cond.fieldLink (zcn (zmo j)) i o n' d' ∈ lw_tbl ∧ goodWord (Cond.fieldLink (zcn (zmo j)) i o n' d') = true) ∨ Cond.fieldLinkNest (zcn (zmo j)) i o n' d' "CyclicLines" ∈ lw_tbl)
    (kk : W p l e R s m args below meth c H locs c1 s1 Q (F0 m (pc + 3) lm (v :: rest))) : W p l e R s m args below meth c H locs c1 s1 Q (F0 m pc lm (.ref q :: rest)) := by
  obtain ⟨hx, hb, hml, hown, hts, hcst, -⟩ := C
  rcases hw with hw | hw
  · exact vk_getf hx hb hE hS hown (hts _ hw.1 hw.2) (fun _ h => h) hd kk
  · obtain ⟨cf, k, fi, f, cell, h1, h2, h3, h4, h5, h6⟩ := hE.kept hS.2.1
    exact va_Wgetf hx hb hown ((hcst.2.1 _ hw rfl).use rfl) h1 h2 h3 h4 (v := v) h5 rfl rfl hd kk
theorem zs_wtext {i : Nat} {x y : Int} (hd : decode (zmb j) pc = .ok (.getfield i, 3)) (hl : zFL.any (fun e => Nat.beq e.1 (zmo j) && Nat.beq e.2.1 i && Nat.beq e.2.2.1 1000) = true) (h0 : 0 ≤ x) (h1 : x < 33)
    (C : zAct p l R s m args meth c K j d) (hag : zag ad0 ad n0) (hi : is = zdrop (zmc j).1 (t + 1)) (hpc : is = [] ∨ (zpc j)[t + 1]? = some (pc + 3)) (hP : zPic K ph ad σ H) (hS : va_S K.A s.heap H locs) (hL : zLoc K ad σ.2.2.2.2.1 lm (zml j) ls) (hR : zRels K ad σ.2.2.2.2.1 ((5, x, y) :: st) sm) (hn : n0 ≤ σ.2.2.2.2.1) (hc : c0 ≤ σ.2.2.1) (hs : s0 ≤ σ.2.2.2.1)
    (G : zGo p l e R s m args below meth c Q K ph j ad0 n0 c0 s0 is ls ((6, zWtx x, 0) :: st) σ) : W p l e R s m args below meth c H locs (σ.2.2.1 - c0) (σ.2.2.2.1 - s0) Q (F0 m pc lm sm) := by
  have hcst : zCst K s := C.2.2.2.2.2.1
  obtain ⟨hw, hkr⟩ := zFL_any hl
  obtain ⟨w1, ws1, rfl, r1, hR1⟩ := zRels_cons hR
  obtain ⟨rfl, -, -⟩ := r1
  rw [if_neg (by omega)]
  obtain ⟨b, rfl⟩ : ∃ b : Nat, x = (b : Int) := ⟨x.toNat, by omega⟩
  have hb33 : b < 33 := by omega
  have hz := zWtx_ok b hb33
  obtain ⟨-, -, -, hE⟩ := hcst.2.2.2.2.2.2.1 b hb33
  simp only [Int.toNat_natCast]
  exact zget_of hE hS C hd hw (G ad H locs lm _ _ (t + 1) hag hi hpc hP hS hL ⟨⟨rfl, hz⟩, hR1⟩ hn hc hs)
theorem zs_wfact {i : Nat} {x y : Int} (hd : decode (zmb j) pc = .ok (.getfield i, 3)) (hl : zFL.any (fun e => Nat.beq e.1 (zmo j) && Nat.beq e.2.1 i && Nat.beq e.2.2.1 1001) = true) (h0 : 0 ≤ x) (h1 : x < 33)
    (C : zAct p l R s m args meth c K j d) (hag : zag ad0 ad n0) (hi : is = zdrop (zmc j).1 (t + 1)) (hpc : is = [] ∨ (zpc j)[t + 1]? = some (pc + 3)) (hP : zPic K ph ad σ H) (hS : va_S K.A s.heap H locs) (hL : zLoc K ad σ.2.2.2.2.1 lm (zml j) ls) (hR : zRels K ad σ.2.2.2.2.1 ((5, x, y) :: st) sm) (hn : n0 ≤ σ.2.2.2.2.1) (hc : c0 ≤ σ.2.2.1) (hs : s0 ≤ σ.2.2.2.1)
    (G : zGo p l e R s m args below meth c Q K ph j ad0 n0 c0 s0 is ls ((0, zWfc x, 0) :: st) σ) : W p l e R s m args below meth c H locs (σ.2.2.1 - c0) (σ.2.2.2.1 - s0) Q (F0 m pc lm sm) := by
  have hcst : zCst K s := C.2.2.2.2.2.1
  obtain ⟨hw, hkr⟩ := zFL_any hl
  obtain ⟨w1, ws1, rfl, r1, hR1⟩ := zRels_cons hR
  obtain ⟨rfl, -, -⟩ := r1
  rw [if_neg (by omega)]
  obtain ⟨b, rfl⟩ : ∃ b : Nat, x = (b : Int) := ⟨x.toNat, by omega⟩
  have hb33 : b < 33 := by omega
  have hz := zWfc_ok b hb33
  obtain ⟨-, -, hE, -⟩ := hcst.2.2.2.2.2.2.1 b hb33
  simp only [Int.toNat_natCast]
  exact zget_of hE hS C hd hw (G ad H locs lm _ _ (t + 1) hag hi hpc hP hS hL ⟨⟨rfl, hz⟩, hR1⟩ hn hc hs)
theorem zs_sval {i : Nat} {x y : Int} (hd : decode (zmb j) pc = .ok (.getfield i, 3)) (hl : zFL.any (fun e => Nat.beq e.1 (zmo j) && Nat.beq e.2.1 i && Nat.beq e.2.2.1 1002) = true)
    (C : zAct p l R s m args meth c K j d) (hag : zag ad0 ad n0) (hi : is = zdrop (zmc j).1 (t + 1)) (hpc : is = [] ∨ (zpc j)[t + 1]? = some (pc + 3)) (hP : zPic K ph ad σ H) (hS : va_S K.A s.heap H locs) (hL : zLoc K ad σ.2.2.2.2.1 lm (zml j) ls) (hR : zRels K ad σ.2.2.2.2.1 ((6, x, y) :: st) sm) (hn : n0 ≤ σ.2.2.2.2.1) (hc : c0 ≤ σ.2.2.1) (hs : s0 ≤ σ.2.2.2.1)
    (G : zGo p l e R s m args below meth c Q K ph j ad0 n0 c0 s0 is ls ((35, x, ((zTx x).length : Int)) :: st) σ) : W p l e R s m args below meth c H locs (σ.2.2.1 - c0) (σ.2.2.2.1 - s0) Q (F0 m pc lm sm) := by
  have hcst : zCst K s := C.2.2.2.2.2.1
  obtain ⟨hw, hkr⟩ := zFL_any hl
  obtain ⟨w1, ws1, rfl, r1, hR1⟩ := zRels_cons hR
  obtain ⟨rfl, h0, h1⟩ := r1
  obtain ⟨b, rfl⟩ : ∃ b : Nat, x = (b : Int) := ⟨x.toNat, by omega⟩
  obtain ⟨-, -, hE, -⟩ := hcst.2.2.2.1 b (by omega)
  simp only [Int.toNat_natCast]
  exact zget_of hE hS C hd hw (G ad H locs lm _ _ (t + 1) hag hi hpc hP hS hL ⟨⟨rfl, h0, h1, rfl⟩, hR1⟩ hn hc hs)
theorem zs_scod {i : Nat} {x y : Int} (hd : decode (zmb j) pc = .ok (.getfield i, 3)) (hl : zFL.any (fun e => Nat.beq e.1 (zmo j) && Nat.beq e.2.1 i && Nat.beq e.2.2.1 1003) = true)
    (C : zAct p l R s m args meth c K j d) (hag : zag ad0 ad n0) (hi : is = zdrop (zmc j).1 (t + 1)) (hpc : is = [] ∨ (zpc j)[t + 1]? = some (pc + 3)) (hP : zPic K ph ad σ H) (hS : va_S K.A s.heap H locs) (hL : zLoc K ad σ.2.2.2.2.1 lm (zml j) ls) (hR : zRels K ad σ.2.2.2.2.1 ((6, x, y) :: st) sm) (hn : n0 ≤ σ.2.2.2.2.1) (hc : c0 ≤ σ.2.2.1) (hs : s0 ≤ σ.2.2.2.1)
    (G : zGo p l e R s m args below meth c Q K ph j ad0 n0 c0 s0 is ls ((0, 0, 0) :: st) σ) : W p l e R s m args below meth c H locs (σ.2.2.1 - c0) (σ.2.2.2.1 - s0) Q (F0 m pc lm sm) := by
  have hcst : zCst K s := C.2.2.2.2.2.1
  obtain ⟨hw, hkr⟩ := zFL_any hl
  obtain ⟨w1, ws1, rfl, r1, hR1⟩ := zRels_cons hR
  obtain ⟨rfl, h0, h1⟩ := r1
  obtain ⟨b, rfl⟩ : ∃ b : Nat, x = (b : Int) := ⟨x.toNat, by omega⟩
  obtain ⟨-, hE, -, -⟩ := hcst.2.2.2.1 b (by omega)
  simp only [Int.toNat_natCast]
  exact zget_of hE hS C hd hw (G ad H locs lm _ _ (t + 1) hag hi hpc hP hS hL ⟨⟨rfl, by decide, by decide⟩, hR1⟩ hn hc hs)
theorem zgets_of {o n' d' : String} {v : Value} {i : Nat} {rest : List Value} {c1 s1 : Nat} (hE : va_Z o n' d' v K.A s s.heap) (hS : va_S K.A s.heap H locs) (C : zAct p l R s m args meth c K j d) (hd : decode (zmb j) pc = .ok (.getstatic i, 3))
    (hw : (Cond.fieldLink (zcn (zmo j)) i o n' d' ∈ lw_tbl ∧ goodWord (Cond.fieldLink (zcn (zmo j)) i o n' d') = true) ∨ Cond.fieldLinkNest (zcn (zmo j)) i o n' d' "CyclicLines" ∈ lw_tbl)
    (kk : W p l e R s m args below meth c H locs c1 s1 Q (F0 m (pc + 3) lm (v :: rest))) : W p l e R s m args below meth c H locs c1 s1 Q (F0 m pc lm rest) := by
  obtain ⟨hx, hb, hml, hown, hts, hcst, -⟩ := C
  rcases hw with hw | hw
  · exact va_gets hx hb hE hS hown (hts _ hw.1 hw.2) (fun _ h => h) hd kk
  · exact va_getsN hx hb hE hS hown ((hcst.2.1 _ hw rfl).use rfl) (fun _ h => h) hd kk
def zgsv (k : Nat) : zV := match Nat.ble 100 k with
  | false => (5, (k : Int), 0)
  | true => match k with
    | 100 => (7, 0, 33)
    | 101 => (0, 1, 0)
    | _ => (3, 0, 0)
theorem zs_getstatic {i k : Nat} (hd : decode (zmb j) pc = .ok (.getstatic i, 3)) (hl : zGL.any (fun e => Nat.beq e.1 (zmo j) && Nat.beq e.2.1 i && Nat.beq e.2.2.1 k) = true)
    (C : zAct p l R s m args meth c K j d) (hag : zag ad0 ad n0) (hi : is = zdrop (zmc j).1 (t + 1)) (hpc : is = [] ∨ (zpc j)[t + 1]? = some (pc + 3)) (hP : zPic K ph ad σ H) (hS : va_S K.A s.heap H locs) (hL : zLoc K ad σ.2.2.2.2.1 lm (zml j) ls) (hR : zRels K ad σ.2.2.2.2.1 st sm) (hn : n0 ≤ σ.2.2.2.2.1) (hc : c0 ≤ σ.2.2.1) (hs : s0 ≤ σ.2.2.2.1)
    (G : zGo p l e R s m args below meth c Q K ph j ad0 n0 c0 s0 is ls (zgsv k :: st) σ) : W p l e R s m args below meth c H locs (σ.2.2.1 - c0) (σ.2.2.2.1 - s0) Q (F0 m pc lm sm) := by
  have hcst : zCst K s := C.2.2.2.2.2.1
  obtain ⟨hw, hkr⟩ := zGL_any hl
  by_cases hk : k < 33
  · have e1 : zsn k = ("CyclicLines$Word", zWnm.getD k "", "LCyclicLines$Word;") := by
      unfold zsn
      rw [show Nat.ble 100 k = false by rw [Bool.eq_false_iff, ne_eq, Nat.ble_eq]; omega]
    have e2 : zgsv k = (5, (k : Int), 0) := by
      unfold zgsv
      rw [show Nat.ble 100 k = false by rw [Bool.eq_false_iff, ne_eq, Nat.ble_eq]; omega]
    rw [e1] at hw
    rw [e2] at G
    obtain ⟨hE, -, -, -⟩ := hcst.2.2.2.2.2.2.1 k hk
    refine zgets_of hE hS C hd hw (G ad H locs lm _ _ (t + 1) hag hi hpc hP hS hL ⟨⟨?_, by omega, by omega⟩, hR⟩ hn hc hs)
    rw [if_neg (by omega), Int.toNat_natCast]
    rfl
  · have hk3 : k = 100 ∨ k = 101 ∨ k = 102 := by omega
    rcases hk3 with rfl | rfl | rfl
    · exact zgets_of hcst.2.2.2.2.2.2.2.2.1.1 hS C hd hw (G ad H locs lm _ _ (t + 1) hag hi hpc hP hS hL ⟨⟨rfl, rfl⟩, hR⟩ hn hc hs)
    · exact zgets_of hcst.2.2.2.2.2.2.2.2.2.1 hS C hd hw (G ad H locs lm _ _ (t + 1) hag hi hpc hP hS hL ⟨⟨rfl, by decide, by decide⟩, hR⟩ hn hc hs)
    · rcases hcst.2.2.2.2.2.2.2.2.2.2.1 with h9 | ⟨q9, h9⟩
      · exact zgets_of h9 hS C hd hw (G ad H locs lm _ _ (t + 1) hag hi hpc hP hS hL ⟨⟨none, rfl⟩, hR⟩ hn hc hs)
      · exact zgets_of h9 hS C hd hw (G ad H locs lm _ _ (t + 1) hag hi hpc hP hS hL ⟨⟨some q9, rfl⟩, hR⟩ hn hc hs)
/-- a text -/
theorem zs_ldcS {i k L : Nat} (hd : (decode (zmb j) pc = .ok (.ldc i, 2) ∧ L = 2) ∨ (decode (zmb j) pc = .ok (.ldc_w i, 3) ∧ L = 3)) (hk : k < 31) (hl : zSL.any (fun e => Nat.beq e.1 (zmo j) && Nat.beq e.2.1 i && Nat.beq e.2.2 k) = true)
    (C : zAct p l R s m args meth c K j d) (hag : zag ad0 ad n0) (hi : is = zdrop (zmc j).1 (t + 1)) (hpc : is = [] ∨ (zpc j)[t + 1]? = some (pc + L)) (hP : zPic K ph ad σ H) (hS : va_S K.A s.heap H locs) (hL : zLoc K ad σ.2.2.2.2.1 lm (zml j) ls) (hR : zRels K ad σ.2.2.2.2.1 st sm) (hn : n0 ≤ σ.2.2.2.2.1) (hc : c0 ≤ σ.2.2.1) (hs : s0 ≤ σ.2.2.2.1)
    (G : zGo p l e R s m args below meth c Q K ph j ad0 n0 c0 s0 is ls ((6, (k : Int), 0) :: st) σ) : W p l e R s m args below meth c H locs (σ.2.2.1 - c0) (σ.2.2.2.1 - s0) Q (F0 m pc lm sm) := by
  obtain ⟨hx, hb, hml, hown, hts, hcst, -⟩ := C
  obtain ⟨q, hq, h1⟩ := List.any_eq_true.mp hl
  simp only [Bool.and_eq_true] at h1
  obtain ⟨⟨e1, e2⟩, e3⟩ := h1
  have e1 := Nat.eq_of_beq_eq_true e1
  have e2 := Nat.eq_of_beq_eq_true e2
  have e3 := Nat.eq_of_beq_eq_true e3
  obtain ⟨tx, hE⟩ := hcst.2.2.2.2.1 q hq
  rw [e1, e2, e3] at hE
  have fin : W p l e R s m args below meth c H locs (σ.2.2.1 - c0) (σ.2.2.2.1 - s0) Q (F0 m (pc + L) lm (.ref (K.adK k) :: sm)) :=
    G ad H locs lm _ _ (t + 1) hag hi hpc hP hS hL ⟨⟨by rw [Int.toNat_natCast], by omega, by omega⟩, hR⟩ hn hc hs
  rcases hd with ⟨hd, rfl⟩ | ⟨hd, rfl⟩
  · exact va_ldcS hx hb hown hE hd fin
  · intro T hT X
    obtain ⟨t1, a1, b1⟩ := fin T hT X
    exact ⟨t1, X.ldcStringW hx hown (text := tx) (a := K.adK k) hE.1 hE.2 (g := F0 m pc lm sm) rfl (by rw [hb]; exact hd) t1 a1, b1⟩
/-- the row of words: its length, a word of it -/
theorem zs_wlen {x y : Int} (hd : decode (zmb j) pc = .ok (.arraylength, 1))
    (C : zAct p l R s m args meth c K j d) (hag : zag ad0 ad n0) (hi : is = zdrop (zmc j).1 (t + 1)) (hpc : is = [] ∨ (zpc j)[t + 1]? = some (pc + 1)) (hP : zPic K ph ad σ H) (hS : va_S K.A s.heap H locs) (hL : zLoc K ad σ.2.2.2.2.1 lm (zml j) ls) (hR : zRels K ad σ.2.2.2.2.1 ((7, x, y) :: st) sm) (hn : n0 ≤ σ.2.2.2.2.1) (hc : c0 ≤ σ.2.2.1) (hs : s0 ≤ σ.2.2.2.1)
    (G : zGo p l e R s m args below meth c Q K ph j ad0 n0 c0 s0 is ls ((0, y, 0) :: st) σ) : W p l e R s m args below meth c H locs (σ.2.2.1 - c0) (σ.2.2.2.1 - s0) Q (F0 m pc lm sm) := by
  obtain ⟨hx, hb, hml, hown, hts, hcst, -⟩ := C
  obtain ⟨w1, ws1, rfl, ⟨rfl, rfl⟩, hR1⟩ := zRels_cons hR
  obtain ⟨cell, h1, h2, h3, h4, h5, h6, h7⟩ := (hcst.2.2.2.2.2.2.2.2.1.2).kept hS.2.1
  exact W.alen hx hb h1 h2 h5 rfl rfl hd (G ad H locs lm _ _ (t + 1) hag hi hpc hP hS hL ⟨⟨rfl, by decide, by decide⟩, hR1⟩ hn hc hs)
theorem zs_wald {x y i z : Int} (hd : decode (zmb j) pc = .ok (.aaload, 1)) (h0 : 0 ≤ i) (hiy : i < y)
    (C : zAct p l R s m args meth c K j d) (hag : zag ad0 ad n0) (hi : is = zdrop (zmc j).1 (t + 1)) (hpc : is = [] ∨ (zpc j)[t + 1]? = some (pc + 1)) (hP : zPic K ph ad σ H) (hS : va_S K.A s.heap H locs) (hL : zLoc K ad σ.2.2.2.2.1 lm (zml j) ls) (hR : zRels K ad σ.2.2.2.2.1 ((0, i, z) :: (7, x, y) :: st) sm) (hn : n0 ≤ σ.2.2.2.2.1) (hc : c0 ≤ σ.2.2.1) (hs : s0 ≤ σ.2.2.2.1)
    (G : zGo p l e R s m args below meth c Q K ph j ad0 n0 c0 s0 is ls ((5, i, 0) :: st) σ) : W p l e R s m args below meth c H locs (σ.2.2.1 - c0) (σ.2.2.2.1 - s0) Q (F0 m pc lm sm) := by
  obtain ⟨hx, hb, hml, hown, hts, hcst, -⟩ := C
  obtain ⟨w0, ws0, rfl, ⟨rfl, r0⟩, hR1⟩ := zRels_cons hR
  obtain ⟨w1, ws1, rfl, ⟨rfl, rfl⟩, hR2⟩ := zRels_cons hR1
  obtain ⟨cell, h1, h2, h3, h4, h5, h6, h7⟩ := (hcst.2.2.2.2.2.2.2.2.1.2).kept hS.2.1
  have hin := zi_in r0 h0 hiy
  have ec : (Int32.ofInt i).toNatClampNeg = i.toNat := zi_clamp r0
  refine W.aald hx hb h1 h2 rfl h3 (fun z => hin (z.imp id (fun z => ?_))) (v := .ref (K.adW i.toNat)) ?_ rfl rfl hd (G ad H locs lm _ _ (t + 1) hag hi hpc hP hS hL ⟨⟨?_, by omega, by omega⟩, hR2⟩ hn hc hs)
  · omega
  · rw [ec, h6 i.toNat (by omega)]
  · rw [if_neg (by omega)]
    rfl
theorem zs_blen {x y : Int} (hd : decode (zmb j) pc = .ok (.arraylength, 1))
    (C : zAct p l R s m args meth c K j d) (hag : zag ad0 ad n0) (hi : is = zdrop (zmc j).1 (t + 1)) (hpc : is = [] ∨ (zpc j)[t + 1]? = some (pc + 1)) (hP : zPic K ph ad σ H) (hS : va_S K.A s.heap H locs) (hL : zLoc K ad σ.2.2.2.2.1 lm (zml j) ls) (hR : zRels K ad σ.2.2.2.2.1 ((35, x, y) :: st) sm) (hn : n0 ≤ σ.2.2.2.2.1) (hc : c0 ≤ σ.2.2.1) (hs : s0 ≤ σ.2.2.2.1)
    (G : zGo p l e R s m args below meth c Q K ph j ad0 n0 c0 s0 is ls ((0, y, 0) :: st) σ) : W p l e R s m args below meth c H locs (σ.2.2.1 - c0) (σ.2.2.2.1 - s0) Q (F0 m pc lm sm) := by
  obtain ⟨hx, hb, hml, hown, hts, hcst, -⟩ := C
  obtain ⟨w1, ws1, rfl, ⟨rfl, h0, h1, rfl⟩, hR1⟩ := zRels_cons hR
  obtain ⟨b, rfl⟩ : ∃ b : Nat, x = (b : Int) := ⟨x.toNat, by omega⟩
  have hz := (zTx_ok b (by omega)).1
  obtain ⟨cell, g1, g2, g3, g4, g5, g6, g7⟩ := ((hcst.2.2.2.1 b (by omega)).2.2.2).kept hS.2.1
  simp only [Int.toNat_natCast]
  exact W.alen hx hb g1 g2 g5 rfl rfl hd (G ad H locs lm _ _ (t + 1) hag hi hpc hP hS hL ⟨⟨by rw [zi_ofNat], by omega, by omega⟩, hR1⟩ hn hc hs)
theorem zs_bald {x y i z : Int} (hd : decode (zmb j) pc = .ok (.baload, 1)) (h0 : 0 ≤ i) (hiy : i < y)
    (C : zAct p l R s m args meth c K j d) (hag : zag ad0 ad n0) (hi : is = zdrop (zmc j).1 (t + 1)) (hpc : is = [] ∨ (zpc j)[t + 1]? = some (pc + 1)) (hP : zPic K ph ad σ H) (hS : va_S K.A s.heap H locs) (hL : zLoc K ad σ.2.2.2.2.1 lm (zml j) ls) (hR : zRels K ad σ.2.2.2.2.1 ((0, i, z) :: (35, x, y) :: st) sm) (hn : n0 ≤ σ.2.2.2.2.1) (hc : c0 ≤ σ.2.2.1) (hs : s0 ≤ σ.2.2.2.1)
    (G : zGo p l e R s m args below meth c Q K ph j ad0 n0 c0 s0 is ls ((0, (zTx x).getD i.toNat 0, 0) :: st) σ) : W p l e R s m args below meth c H locs (σ.2.2.1 - c0) (σ.2.2.2.1 - s0) Q (F0 m pc lm sm) := by
  obtain ⟨hx, hb, hml, hown, hts, hcst, -⟩ := C
  obtain ⟨w0, ws0, rfl, ⟨rfl, r0⟩, hR1⟩ := zRels_cons hR
  obtain ⟨w1, ws1, rfl, ⟨rfl, hx0, hx1, rfl⟩, hR2⟩ := zRels_cons hR1
  obtain ⟨b, rfl⟩ : ∃ b : Nat, x = (b : Int) := ⟨x.toNat, by omega⟩
  obtain ⟨cell, g1, g2, g3, g4, g5, g6, g7⟩ := ((hcst.2.2.2.1 b (by omega)).2.2.2).kept hS.2.1
  have hin := zi_in r0 h0 hiy
  have ec : (Int32.ofInt i).toNatClampNeg = i.toNat := zi_clamp r0
  have hz := (zTx_ok b (by omega)).2 i.toNat (by omega)
  simp only [Int.toNat_natCast]
  refine W.bald hx hb g1 g2 g3 (fun z => hin (z.imp id (fun z => ?_))) (v := .int (Int32.ofInt ((zTx (b : Int)).getD i.toNat 0))) ?_ rfl rfl hd (G ad H locs lm _ _ (t + 1) hag hi hpc hP hS hL ⟨⟨rfl, by omega, by omega⟩, hR2⟩ hn hc hs)
  · omega
  · rw [ec, g6 i.toNat (by omega)]
theorem zcat_sum {n : Nat} : ∀ {vs : List zV} {ws : List Value}, zRels K ad n vs ws → (ws.map fun v => v.category).sum ≤ 2 * vs.length := by
  intro vs
  induction vs with
  | nil => intro ws h; rw [zRels_nil h]; simp
  | cons v vs ih =>
    intro ws h
    obtain ⟨w, ws', rfl, g1, g2⟩ := zRels_cons h
    obtain ⟨t9, x9, y9⟩ := v
    have g3 := zRel_cat g1
    have g4 := ih g2
    simp only [List.map_cons, List.sum_cons, List.length_cons]
    have : w.category ≤ 2 := by rw [g3]; split <;> omega
    omega
/-- Object's constructor -/
theorem zs_objInit {i u : Nat} {x y : Int} (hd : decode (zmb j) pc = .ok (.invokespecial i, 3)) (hl : zOL.any (fun e => Nat.beq e.1 (zmo j) && Nat.beq e.2.1 i) = true) (hu : 10 ≤ u) (hst8 : st.length ≤ 8)
    (C : zAct p l R s m args meth c K j d) (hag : zag ad0 ad n0) (hi : is = zdrop (zmc j).1 (t + 1)) (hpc : is = [] ∨ (zpc j)[t + 1]? = some (pc + 3)) (hP : zPic K ph ad σ H) (hS : va_S K.A s.heap H locs) (hL : zLoc K ad σ.2.2.2.2.1 lm (zml j) ls) (hR : zRels K ad σ.2.2.2.2.1 ((u, x, y) :: st) sm) (hn : n0 ≤ σ.2.2.2.2.1) (hc : c0 ≤ σ.2.2.1) (hs : s0 ≤ σ.2.2.2.1)
    (G : zGo p l e R s m args below meth c Q K ph j ad0 n0 c0 s0 is ls st σ) : W p l e R s m args below meth c H locs (σ.2.2.1 - c0) (σ.2.2.2.1 - s0) Q (F0 m pc lm sm) := by
  obtain ⟨hx, hb, hml, hown, hts, hcst, -, -, -, -, hfr, hlo⟩ := C
  obtain ⟨q, hq, h1⟩ := List.any_eq_true.mp hl
  rw [Bool.and_eq_true] at h1
  have hw := zgw_ok (List.all_eq_true.mp zOL_ok q hq)
  rw [Nat.eq_of_beq_eq_true h1.1, Nat.eq_of_beq_eq_true h1.2] at hw
  obtain ⟨w1, ws1, rfl, r1, hR1⟩ := zRels_cons hR
  have hsum := zcat_sum hR1
  have hw1 : ∃ a, w1 = .ref a := by
    by_cases h35 : u < 35
    · exact ⟨_, ((zRel_o hu h35).mp r1).1⟩
    · have h36 : u = 35 := by have := zRel_ge r1 hu; omega
      subst h36
      exact ⟨_, r1.1⟩
  obtain ⟨a, rfl⟩ := hw1
  exact W.objInit hx hb hown (hts _ hw.1 hw.2) (hts (.instanceMethod Lib.objectInit) (List.mem_append_right _ (List.mem_of_getElem? (i := 34) rfl)) rfl) (hts (.code Lib.objectInit ⟨#[0xb1]⟩ 1 none) (List.mem_append_right _ (List.mem_of_getElem? (i := 35) rfl)) rfl) rfl (hL.1.trans hml.symm) rfl hd (by omega) (by
    show 2 * (0 : Nat) + _ + 12 ≤ _
    omega) (G ad H locs lm _ _ (t + 1) hag hi hpc hP hS hL hR1 hn hc hs)
end ZC
