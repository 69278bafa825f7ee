/-! ## methods: how they begin, what they ask and answer -/
theorem zpad_len : ∀ (n : Nat) (as : List zV), zn1 as = true → (zpad n as).length = n := by
  intro n
  induction n with
  | zero => intro as _; cases as <;> rfl
  | succ n ih =>
    intro as h
    cases as with
    | nil =>
      show ((2, 0, 0) :: zpad n []).length = n + 1
      rw [List.length_cons, ih [] rfl]
    | cons v as =>
      obtain ⟨t, x, y⟩ := v
      cases t with
      | zero =>
        show ((0, x, y) :: zpad n as).length = n + 1
        rw [List.length_cons, ih as h]
      | succ t =>
        cases t with
        | zero => cases h
        | succ t =>
          show ((t + 1 + 1, x, y) :: zpad n as).length = n + 1
          rw [List.length_cons, ih as h]
theorem zpad_at : ∀ (n : Nat) (as : List zV), zn1 as = true → ∀ i, i < n → (zpad n as)[i]? = some ((as[i]?).getD (2, 0, 0)) := by
  intro n
  induction n with
  | zero => intro as _ i h; omega
  | succ n ih =>
    intro as h i hi
    cases as with
    | nil =>
      show ((2, 0, 0) :: zpad n [])[i]? = _
      cases i with
      | zero => rfl
      | succ i =>
        rw [List.getElem?_cons_succ, ih [] rfl i (by omega)]
        rfl
    | cons v as =>
      obtain ⟨t, x, y⟩ := v
      cases t with
      | zero =>
        show ((0, x, y) :: zpad n as)[i]? = _
        cases i with
        | zero => rfl
        | succ i =>
          rw [List.getElem?_cons_succ, List.getElem?_cons_succ]
          exact ih as h i (by omega)
      | succ t =>
        cases t with
        | zero => cases h
        | succ t =>
          show ((t + 1 + 1, x, y) :: zpad n as)[i]? = _
          cases i with
          | zero => rfl
          | succ i =>
            rw [List.getElem?_cons_succ, List.getElem?_cons_succ]
            exact ih as h i (by omega)
theorem zn1_tl {v : zV} {as : List zV} (h : zn1 (v :: as) = true) : v.1 ≠ 1 ∧ zn1 as = true := by
  obtain ⟨t, x, y⟩ := v
  cases t with
  | zero => exact ⟨fun z => absurd (show (0 : Nat) = 1 from z) (by decide), h⟩
  | succ t =>
    cases t with
    | zero => cases h
    | succ t => exact ⟨by show t + 1 + 1 ≠ 1; omega, h⟩
theorem zRels_sl {K : zCx} {ad : Nat → Nat} {n : Nat} : ∀ {as : List zV} {ws : List Value}, zRels K ad n as ws → zn1 as = true → lg_sl ws = ws.map Slot.val := by
  intro as
  induction as with
  | nil => intro ws h _; rw [zRels_nil h]; rfl
  | cons v as ih =>
    intro ws h h1
    obtain ⟨w, ws', rfl, g1, g2⟩ := zRels_cons h
    obtain ⟨h2, h3⟩ := zn1_tl h1
    obtain ⟨t, x, y⟩ := v
    have hc := zRel_cat g1
    have e := ih g2 h3
    have hc1 : w.category = 1 := by rw [hc]; exact if_neg h2
    show (if w.category = 2 then [Slot.val w, Slot.second] else [Slot.val w]) ++ lg_sl ws' = Slot.val w :: ws'.map Slot.val
    rw [if_neg (by rw [hc1]; decide), e]
    rfl
theorem zRels_at {K : zCx} {ad : Nat → Nat} {n : Nat} : ∀ {as : List zV} {ws : List Value}, zRels K ad n as ws → ∀ (i : Nat) (v : zV), as[i]? = some v → ∃ w, ws[i]? = some w ∧ zRel K ad n v w := by
  intro as
  induction as with
  | nil => intro ws h i v hv; simp at hv
  | cons u as ih =>
    intro ws h i v hv
    obtain ⟨w, ws', rfl, g1, g2⟩ := zRels_cons h
    cases i with
    | zero =>
      simp only [List.getElem?_cons_zero, Option.some.injEq] at hv
      subst hv
      exact ⟨w, rfl, g1⟩
    | succ i =>
      rw [List.getElem?_cons_succ] at hv ⊢
      exact ih g2 i v hv
theorem zLoc_entry {K : zCx} {ad : Nat → Nat} {n nL : Nat} {as : List zV} {ws : List Value} (h : zRels K ad n as ws) (h1 : zn1 as = true) (hl : as.length ≤ nL) : zLoc K ad n ((lg_sl ws ++ List.replicate (nL - (lg_sl ws).length) Slot.unset).toArray) nL (zpad nL as) := by
  have e := zRels_sl h h1
  have hlen := zRels_len h
  have hE := lv_entry ws (n := nL) (by rw [e, List.length_map]; omega)
  refine ⟨hE.1, hE.2.1, zpad_len nL as h1, fun i v hv h2 _ => ?_⟩
  have hi : i < nL := by
    have := (List.getElem?_eq_some_iff.mp hv).1
    rwa [zpad_len nL as h1] at this
  rw [zpad_at nL as h1 i hi] at hv
  cases ha : as[i]? with
  | none =>
    rw [ha] at hv
    cases hv
    exact absurd rfl h2
  | some u =>
    rw [ha] at hv
    cases hv
    obtain ⟨w, hw, hr⟩ := zRels_at h i u ha
    refine ⟨w, ?_, hr⟩
    have hil : i < ws.length := (List.getElem?_eq_some_iff.mp hw).1
    rw [List.getElem?_toArray, e, List.getElem?_append_left (by rw [List.length_map]; exact hil), List.getElem?_map, hw]
    rfl
/-- the classes of what is thrown -/
def zExN (t : Nat) : String := match t with
  | 100 => "java/lang/IllegalArgumentException"
  | 101 => "java/lang/UnsupportedOperationException"
  | 102 => "java/lang/IndexOutOfBoundsException"
  | 103 => "java/util/NoSuchElementException"
  | _ => "java/lang/IllegalStateException"
/-- none of them is another -/
def zNcs (U : State) : Prop := ∀ a b : Nat, a < 5 → b < 5 → a ≠ b → va_Nc (zExN (100 + a)) (zExN (100 + b)) U
def zPc (K : zCx) (ph : Bool) (ad : Nat → Nat) (σ : zS) (as : List zV) : Array Value → State → Prop := fun a U => ∃ ws : List Value, a = ws.toArray ∧ zRels K ad σ.2.2.2.2.1 as ws ∧ zPic K ph ad σ U.heap ∧ zCst K U ∧ zNcs U
def zRet (K : zCx) (ad : Nat → Nat) (n : Nat) (v : zV) (o : Option Value) : Prop := (v.1 = 9 ∧ o = none) ∨ (v.1 ≠ 9 ∧ v.1 < 100 ∧ ∃ w, o = some w ∧ zRel K ad n v w)
def zQc (K : zCx) (ph : Bool) (ad0 : Nat → Nat) (n0 : Nat) (r : zV × zS) : Array Value → State → Outcome → State → Prop := fun _ u o t => ∃ (ad' : Nat → Nat) (v : Option Value), o = .returned v ∧ zag ad0 ad' n0 ∧ zRet K ad' r.2.2.2.2.2.1 r.1 v ∧ zPic K ph ad' r.2 t.heap ∧ va_F K.A u t ∧ n0 ≤ r.2.2.2.2.2.1
def zXC (K : zCx) (ph : Bool) (ad0 : Nat → Nat) (n0 : Nat) (r : zV × zS) : String → State → State → Prop := fun E u t => (100 ≤ r.1.1 ∧ r.1.1 < 105) ∧ E = zExN r.1.1 ∧ (∃ ad' : Nat → Nat, zag ad0 ad' n0 ∧ zPic K ph ad' r.2 t.heap) ∧ va_F K.A u t ∧ n0 ≤ r.2.2.2.2.2.1
theorem zPc_blind {K : zCx} {ph : Bool} {ad : Nat → Nat} {σ : zS} {as : List zV} : FrameBlind (zPc K ph ad σ as) := fun a U g mk ⟨ws, h1, h2, h3, h4, h5⟩ =>
  ⟨ws, h1, h2, h3, h4.moved (locs := []) (H := U.heap) rfl ⟨Nat.le_refl _, fun _ _ _ => rfl, fun l hl => by cases hl⟩ (State.WarmedH.refl U), fun a b ha hb hab => va_Nc.moved (State.WarmedH.refl U).alike (h5 a b ha hb hab)⟩
def zws (j : Nat) : List Cond := zcw j :: zGood
def zrm (d mc ms : Nat) : Room := { frames := 16 + d, locals := 300 + 40 * d, cells := mc, slots := ms }
/-- what is held of a method's run: what it is called with, what comes of it -/
def zMet (l : Launch) (K : zCx) (ph : Bool) (j d : Nat) (as : List zV) (σ : zS) (r : zV × zS) : Prop :=
  ∀ ad : Nat → Nat, vx_Met l (zmy j) (zws j) (zrm d (r.2.2.2.1 - σ.2.2.1) (r.2.2.2.2.1 - σ.2.2.2.1)) (zPc K ph ad σ as) (zQc K ph ad σ.2.2.2.2.1 r) (zXC K ph ad σ.2.2.2.2.1 r) (r.2.2.2.1 - σ.2.2.1) (r.2.2.2.2.1 - σ.2.2.2.1) K.A
/-- a row of handlers, as the tables tell it -/
def zHt (c : Code) (j : Nat) : Prop := c.exceptionTable.toList.map (fun x => (x.startPc, x.endPc, x.handlerPc, x.catchType)) = zmh j
/-! ## answers -/
def zrkc (j : Nat) : Bool := (zmc j).1.all (fun i => match i with
  | .ireturn => match (zmc j).2.2 with
    | 0 => decide (zmr j = some .int)
    | 1 => decide (zmr j = some .byte)
    | n + 2 => (Nat.beq n 0 && decide (zmr j = some .boolean)) || (Nat.beq n 65534 && decide (zmr j = some .char))
  | .lreturn => decide (zmr j = some .long)
  | .areturn => match zmr j with
    | some (.object _) => true
    | some (.array _) => true
    | _ => false
  | .return_ => decide (zmr j = none)
  | _ => true)
theorem zrkc_1 : (List.range 158).all (fun i => zrkc (1 + i)) = true := by decide +kernel
theorem zrkc_159 : (List.range 157).all (fun i => zrkc (159 + i)) = true := by decide +kernel
theorem zrk_ok {j : Nat} (h0 : 0 < j) (h : j < 316) : zrkc j = true := by
  by_cases h1 : j < 159
  · have := List.all_eq_true.mp zrkc_1 (j - 1) (List.mem_range.mpr (by omega))
    rwa [show 1 + (j - 1) = j by omega] at this
  · have := List.all_eq_true.mp zrkc_159 (j - 159) (List.mem_range.mpr (by omega))
    rwa [show 159 + (j - 159) = j by omega] at this
theorem zi_byte {x : Int} (h0 : 0 ≤ x + 128) (h1 : x + 128 < 256) : narrow .byte (.int (Int32.ofInt x)) = .int (Int32.ofInt x) := by
  show Value.int ((Int32.ofInt x).toInt8.toInt32) = _
  congr 1
  apply Int32.toInt_inj.mp
  rw [Int8.toInt_toInt32, Int32.toInt_toInt8, zi_toInt ⟨by omega, by omega⟩]
  exact Int.bmod_eq_of_le (by omega) (by omega)
theorem zi_char {x : Int} (h0 : 0 ≤ x) (h1 : x < 65536) : narrow .char (.int (Int32.ofInt x)) = .int (Int32.ofInt x) := by
  show Value.int ((Int32.ofInt x).toUInt32.toUInt16.toUInt32.toInt32) = _
  congr 1
  have e : (Int32.ofInt x).toUInt32.toUInt16.toUInt32 = (Int32.ofInt x).toUInt32 % 65536 := by
    apply UInt32.toNat_inj.mp
    simp
  rw [e, zi_c, show zi2c x = x by unfold zi2c; omega]
section ZR
variable {p : Program} {l : Launch} {e : Env} {R : Room} {s : State} {m : MethodId} {args : Array Value} {below : List Frame} {meth : Method} {c : Code} {K : zCx} {ph : Bool} {j d : Nat} {ad0 : Nat → Nat} {n0 c0 s0 : Nat}
variable {ls st : List zV} {σ : zS} {ad : Nat → Nat} {H : Heap} {locs : List Loc} {lm : Array Slot} {sm : List Value} {pc t : Nat}
theorem zs_ireturn {x y : Int} (hd : decode (zmb j) pc = .ok (.ireturn, 1)) (h0 : 0 < j) (h1 : j < 316) (hi : (zmc j).1[t]? = some .ireturn)
    (hk : (zmc j).2.2 = 0 ∨ ((zmc j).2.2 = 1 ∧ 0 ≤ x + 128 ∧ x + 128 < 256) ∨ (∃ n, (zmc j).2.2 = n + 2 ∧ 0 ≤ x ∧ x < ((n + 2 : Nat) : Int)))
    (C : zAct p l R s m args meth c K j d) (hag : zag ad0 ad n0) (hP : zPic K ph ad σ H) (hS : va_S K.A s.heap H locs) (hR : zRels K ad σ.2.2.2.2.1 [(0, x, y)] sm) (hn : n0 ≤ σ.2.2.2.2.1) :
    W p l e R s m args below meth c H locs (σ.2.2.1 - c0) (σ.2.2.2.1 - s0) (vx_MQ below (zQc K ph ad0 n0 ((0, x, y), σ)) (zXC K ph ad0 n0 ((0, x, y), σ)) args s (σ.2.2.1 - c0) (σ.2.2.2.1 - s0) K.A) (F0 m pc lm sm) := by
  obtain ⟨hx, hb, hml, hown, hts, hcst, hst, hlk, hret, -⟩ := C
  obtain ⟨w1, ws1, rfl, ⟨rfl, r1⟩, hR1⟩ := zRels_cons hR
  cases zRels_nil hR1
  have hq : ∀ t : State, t.heap = H → s.WarmedH t.vm → zQc K ph ad0 n0 ((0, x, y), σ) args s (.returned (some (.int (Int32.ofInt x)))) t := fun t ht _ =>
    ⟨ad, _, rfl, hag, Or.inr ⟨by show (0 : Nat) ≠ 9; decide, by show (0 : Nat) < 100; decide, _, rfl, ⟨rfl, r1⟩⟩, by rw [ht]; exact hP, hS.F ht, hn⟩
  have hz := List.all_eq_true.mp (zrk_ok h0 h1) _ (List.mem_of_getElem? hi)
  rcases hk with hk | ⟨hk, k1, k2⟩ | ⟨n, hk, k1, k2⟩
  · rw [hk] at hz
    exact vx_ret (W.iret hx hb (hret.trans (of_decide_eq_true hz)) hq hS.2.2 hd hlk)
  · rw [hk] at hz
    refine vx_ret (W.zret hx hb (hret.trans (of_decide_eq_true hz)) ?_ hq hS.2.2 hd hlk)
    exact zi_byte k1 k2
  · rw [hk] at hz
    have hz2 : ((Nat.beq n 0 && decide (zmr j = some .boolean)) || (Nat.beq n 65534 && decide (zmr j = some .char))) = true := hz
    rw [Bool.or_eq_true, Bool.and_eq_true, Bool.and_eq_true] at hz2
    rcases hz2 with ⟨hz2, hz3⟩ | ⟨hz2, hz3⟩
    · have := Nat.eq_of_beq_eq_true hz2
      subst this
      refine vx_ret (W.zret hx hb (hret.trans (of_decide_eq_true hz3)) ?_ hq hS.2.2 hd hlk)
      have : x = 0 ∨ x = 1 := by omega
      rcases this with rfl | rfl <;> rfl
    · have := Nat.eq_of_beq_eq_true hz2
      subst this
      refine vx_ret (W.zret hx hb (hret.trans (of_decide_eq_true hz3)) ?_ hq hS.2.2 hd hlk)
      exact zi_char k1 (by omega)
theorem zs_lreturn {x y : Int} (hd : decode (zmb j) pc = .ok (.lreturn, 1)) (h0 : 0 < j) (h1 : j < 316) (hi : (zmc j).1[t]? = some .lreturn)
    (C : zAct p l R s m args meth c K j d) (hag : zag ad0 ad n0) (hP : zPic K ph ad σ H) (hS : va_S K.A s.heap H locs) (hR : zRels K ad σ.2.2.2.2.1 [(1, x, y)] sm) (hn : n0 ≤ σ.2.2.2.2.1) :
    W p l e R s m args below meth c H locs (σ.2.2.1 - c0) (σ.2.2.2.1 - s0) (vx_MQ below (zQc K ph ad0 n0 ((1, x, y), σ)) (zXC K ph ad0 n0 ((1, x, y), σ)) args s (σ.2.2.1 - c0) (σ.2.2.2.1 - s0) K.A) (F0 m pc lm sm) := by
  obtain ⟨hx, hb, hml, hown, hts, hcst, hst, hlk, hret, -⟩ := C
  obtain ⟨w1, ws1, rfl, ⟨rfl, r1⟩, hR1⟩ := zRels_cons hR
  cases zRels_nil hR1
  have hz := List.all_eq_true.mp (zrk_ok h0 h1) _ (List.mem_of_getElem? hi)
  exact vx_ret (W.lret hx hb (hret.trans (of_decide_eq_true hz)) (fun t ht _ =>
    ⟨ad, _, rfl, hag, Or.inr ⟨by show (1 : Nat) ≠ 9; decide, by show (1 : Nat) < 100; decide, _, rfl, ⟨rfl, r1⟩⟩, by rw [ht]; exact hP, hS.F ht, hn⟩) hS.2.2 hd hlk)
theorem zs_return (hd : decode (zmb j) pc = .ok (.return_, 1)) (h0 : 0 < j) (h1 : j < 316) (hi : (zmc j).1[t]? = some .return_)
    (C : zAct p l R s m args meth c K j d) (hag : zag ad0 ad n0) (hP : zPic K ph ad σ H) (hS : va_S K.A s.heap H locs) (hR : zRels K ad σ.2.2.2.2.1 [] sm) (hn : n0 ≤ σ.2.2.2.2.1) :
    W p l e R s m args below meth c H locs (σ.2.2.1 - c0) (σ.2.2.2.1 - s0) (vx_MQ below (zQc K ph ad0 n0 ((9, 0, 0), σ)) (zXC K ph ad0 n0 ((9, 0, 0), σ)) args s (σ.2.2.1 - c0) (σ.2.2.2.1 - s0) K.A) (F0 m pc lm sm) := by
  obtain ⟨hx, hb, hml, hown, hts, hcst, hst, hlk, hret, -⟩ := C
  cases zRels_nil hR
  have hz := List.all_eq_true.mp (zrk_ok h0 h1) _ (List.mem_of_getElem? hi)
  exact vx_ret (W.vret hx hb (hret.trans (of_decide_eq_true hz)) (fun t ht _ =>
    ⟨ad, _, rfl, hag, Or.inl ⟨rfl, rfl⟩, by rw [ht]; exact hP, hS.F ht, hn⟩) hS.2.2 hd hlk)
theorem zs_areturn {u : Nat} {x y : Int} (hd : decode (zmb j) pc = .ok (.areturn, 1)) (h0 : 0 < j) (h1 : j < 316) (hi : (zmc j).1[t]? = some .areturn) (hu : u = 5 ∨ 10 ≤ u)
    (C : zAct p l R s m args meth c K j d) (hag : zag ad0 ad n0) (hP : zPic K ph ad σ H) (hS : va_S K.A s.heap H locs) (hR : zRels K ad σ.2.2.2.2.1 [(u, x, y)] sm) (hn : n0 ≤ σ.2.2.2.2.1) :
    W p l e R s m args below meth c H locs (σ.2.2.1 - c0) (σ.2.2.2.1 - s0) (vx_MQ below (zQc K ph ad0 n0 ((u, x, y), σ)) (zXC K ph ad0 n0 ((u, x, y), σ)) args s (σ.2.2.1 - c0) (σ.2.2.2.1 - s0) K.A) (F0 m pc lm sm) := by
  obtain ⟨hx, hb, hml, hown, hts, hcst, hst, hlk, hret, -⟩ := C
  obtain ⟨w1, ws1, rfl, r1, hR1⟩ := zRels_cons hR
  cases zRels_nil hR1
  have hz := List.all_eq_true.mp (zrk_ok h0 h1) _ (List.mem_of_getElem? hi)
  obtain ⟨q, rfl⟩ := zRel_rf r1 (by omega)
  have hu9 : u ≠ 9 ∧ u < 100 := by
    rcases hu with rfl | hu
    · decide
    · have := zRel_ge r1 hu
      omega
  have hq : ∀ t : State, t.heap = H → s.WarmedH t.vm → zQc K ph ad0 n0 ((u, x, y), σ) args s (.returned (some (va_rf q))) t := fun t ht _ =>
    ⟨ad, _, rfl, hag, Or.inr ⟨hu9.1, hu9.2, _, rfl, r1⟩, by rw [ht]; exact hP, hS.F ht, hn⟩
  have hv : va_rf q = .null ∨ ∃ a, va_rf q = .ref a := by
    cases q with
    | none => exact Or.inl rfl
    | some a => exact Or.inr ⟨a, rfl⟩
  have hz2 : (match zmr j with
    | some (.object _) => true
    | some (.array _) => true
    | _ => false) = true := hz
  split at hz2
  · rename_i C' hC
    exact vx_ret (W.aret hx hb (hret.trans hC) (Or.inl ⟨_, rfl⟩) hv hq hS.2.2 hd hlk)
  · rename_i C' hC
    exact vx_ret (W.aret hx hb (hret.trans hC) (Or.inr ⟨_, rfl⟩) hv hq hS.2.2 hd hlk)
  · cases hz2
end ZR
