/-! ## what is caught -/
def zbf (w : Cond) : Bool := (goodWord w || zisNw w) && lw_tbl.any (fun u => decide (u = w))
def zHe (j : Nat) (x : Nat × Nat × Nat × Nat) (e : Nat × Nat) : Bool := Nat.ble 100 e.1 && Nat.blt e.1 105 && Nat.blt 0 x.2.2.2 && (match (zpc j)[e.2]? with
  | some q => Nat.beq q x.2.2.1
  | none => false) && zbf (.classLink (zcn (zmo j)) x.2.2.2 (zExN e.1)) && (List.zip (zpc j) (zmc j).1).all (fun q => match q.2 with
  | .invokeinterface _ _ => Nat.ble x.1 q.1 && Nat.blt q.1 x.2.1
  | _ => true)
def zHc (j : Nat) : Bool := Nat.beq (zmh j).length (zmc j).2.1.length && (List.zip (zmh j) (zmc j).2.1).all (fun e => zHe j e.1 e.2)
theorem zHc_1 : (List.range 79).all (fun i => zHc (1 + i)) = true := by decide +kernel
theorem zHc_80 : (List.range 79).all (fun i => zHc (80 + i)) = true := by decide +kernel
theorem zHc_159 : (List.range 79).all (fun i => zHc (159 + i)) = true := by decide +kernel
theorem zHc_238 : (List.range 79).all (fun i => zHc (238 + i)) = true := by decide +kernel
theorem zHc_ok {j : Nat} (h0 : 0 < j) (h : j < 317) : zHc j = true := by
  by_cases h1 : j < 80
  · have := List.all_eq_true.mp zHc_1 (j - 1) (List.mem_range.mpr (by omega))
    rwa [show 1 + (j - 1) = j by omega] at this
  · by_cases h2 : j < 159
    · have := List.all_eq_true.mp zHc_80 (j - 80) (List.mem_range.mpr (by omega))
      rwa [show 80 + (j - 80) = j by omega] at this
    · by_cases h3 : j < 238
      · have := List.all_eq_true.mp zHc_159 (j - 159) (List.mem_range.mpr (by omega))
        rwa [show 159 + (j - 159) = j by omega] at this
      · have := List.all_eq_true.mp zHc_238 (j - 238) (List.mem_range.mpr (by omega))
        rwa [show 238 + (j - 238) = j by omega] at this
def zCs (k : Nat) : Bool := zbf (.castable (zExN k) (zExN k))
theorem zCs_all : (List.range 5).all (fun i => zCs (100 + i)) = true := by decide +kernel
theorem zCs_ok {k : Nat} (h0 : 100 ≤ k) (h1 : k < 105) : zCs k = true := by
  have := List.all_eq_true.mp zCs_all (k - 100) (List.mem_range.mpr (by omega))
  rwa [show 100 + (k - 100) = k by omega] at this
def zxt (x : ExceptionTableEntry) : Nat × Nat × Nat × Nat := (x.startPc, x.endPc, x.handlerPc, x.catchType)
theorem zhl_ok {j k : Nat} : ∀ (T : List ExceptionTableEntry) (hl : List (Nat × Nat)), T.length = hl.length → (List.zip (T.map zxt) hl).all (fun e => zHe j e.1 e.2) = true →
    (zhd hl k = none ∧ ∀ x ∈ T, ∃ e h, e ≠ k ∧ zHe j (zxt x) (e, h) = true) ∨ (∃ pre x suf h, T = pre ++ x :: suf ∧ zhd hl k = some h ∧ zHe j (zxt x) (k, h) = true ∧ ∀ z ∈ pre, ∃ e h, e ≠ k ∧ zHe j (zxt z) (e, h) = true) := by
  intro T
  induction T with
  | nil =>
    intro hl hlen _
    cases hl with
    | nil => exact Or.inl ⟨rfl, fun x hx => by cases hx⟩
    | cons a b => simp at hlen
  | cons x T ih =>
    intro hl hlen hall
    cases hl with
    | nil => simp at hlen
    | cons a hl =>
      obtain ⟨e, h⟩ := a
      rw [List.map_cons, List.zip_cons_cons, List.all_cons, Bool.and_eq_true] at hall
      have h1 : zHe j (zxt x) (e, h) = true := hall.1
      cases hb : Nat.beq e k with
      | true =>
        have := Nat.eq_of_beq_eq_true hb
        subst this
        refine Or.inr ⟨[], x, T, h, rfl, ?_, h1, fun z hz => by cases hz⟩
        show (match Nat.beq e e with
          | true => some h
          | false => zhd hl e) = some h
        rw [hb]
      | false =>
        have hne : e ≠ k := fun z => by rw [z, Nat.beq_refl] at hb; cases hb
        have hs : zhd ((e, h) :: hl) k = zhd hl k := by
          show (match Nat.beq e k with
            | true => some h
            | false => zhd hl k) = zhd hl k
          rw [hb]
        rcases ih hl (by simpa using hlen) hall.2 with ⟨g1, g2⟩ | ⟨pre, y, suf, h9, g1, g2, g3, g4⟩
        · refine Or.inl ⟨hs.trans g1, fun z hz => ?_⟩
          rcases List.mem_cons.mp hz with rfl | hz
          · exact ⟨e, h, hne, h1⟩
          · exact g2 z hz
        · refine Or.inr ⟨x :: pre, y, suf, h9, by rw [g1]; rfl, hs.trans g2, g3, fun z hz => ?_⟩
          rcases List.mem_cons.mp hz with rfl | hz
          · exact ⟨e, h, hne, h1⟩
          · exact g4 z hz
section ZU
variable {p : Program} {l : Launch} {e : Env} {R : Room} {s : State} {m : MethodId} {args : Array Value} {below : List Frame} {meth : Method} {c : Code} {K : zCx} {ph : Bool} {j d : Nat} {ad0 : Nat → Nat} {n0 c0 s0 : Nat}
variable {ls st : List zV} {σ : zS} {ad : Nat → Nat} {H : Heap} {locs : List Loc} {lm : Array Slot} {sm : List Value} {pc t : Nat}
theorem zbf_ok {w : Cond} (C : zAct p l R s m args meth c K j d) (h : zbf w = true) : w.before args s = true := by
  obtain ⟨hx, hb, hml, hown, hts, hcst, -⟩ := C
  unfold zbf at h
  rw [Bool.and_eq_true, Bool.or_eq_true] at h
  obtain ⟨g1, g3⟩ := h
  obtain ⟨u, hu, g4⟩ := List.any_eq_true.mp g3
  have g4 := of_decide_eq_true g4
  subst g4
  rcases g1 with g1 | g1
  · exact hts u hu g1
  · refine va_Nw.use ?_ (hcst.2.1 u hu g1)
    cases u <;> first | rfl | (simp [zisNw] at g1)
theorem zHe_use {x : ExceptionTableEntry} {e2 h : Nat} {b : Instr} {j2 n2 : Nat} (C : zAct p l R s m args meth c K j d) (hz : zHe j (zxt x) (e2, h) = true) (hat : (zmc j).1[t]? = some (.invokeinterface j2 n2)) (hpc : (zpc j)[t]? = some pc) :
    100 ≤ e2 ∧ e2 < 105 ∧ x.catchType ≠ 0 ∧ (zpc j)[h]? = some x.handlerPc ∧ (Cond.classLink (zcn (zmo j)) x.catchType (zExN e2)).before args s = true ∧ covers x pc = true := by
  unfold zHe at hz
  rw [Bool.and_eq_true, Bool.and_eq_true, Bool.and_eq_true, Bool.and_eq_true, Bool.and_eq_true] at hz
  obtain ⟨⟨⟨⟨⟨z1, z2⟩, z3⟩, z4⟩, z5⟩, z6⟩ := hz
  refine ⟨Nat.le_of_ble_eq_true z1, Nat.le_of_ble_eq_true z2, ?_, ?_, zbf_ok C z5, ?_⟩
  · have : 0 + 1 ≤ x.catchType := Nat.le_of_ble_eq_true z3
    omega
  · split at z4
    · rename_i q hq
      have hq : (zpc j)[h]? = some q := hq
      have : q = x.handlerPc := Nat.eq_of_beq_eq_true z4
      rw [hq, this]
    · cases z4
  · have h1 := List.all_eq_true.mp z6 (pc, Instr.invokeinterface j2 n2) (List.mem_of_getElem? (i := t) (by rw [List.getElem?_zip_eq_some]; exact ⟨hpc, hat⟩))
    have h2 : (Nat.ble x.startPc pc && Nat.blt pc x.endPc) = true := h1
    rw [Bool.and_eq_true] at h2
    have h3 := Nat.le_of_ble_eq_true h2.1
    have h4 : pc + 1 ≤ x.endPc := Nat.le_of_ble_eq_true h2.2
    show (decide (x.startPc ≤ pc) && decide (pc < x.endPc)) = true
    rw [Bool.and_eq_true]
    exact ⟨decide_eq_true h3, decide_eq_true (by omega)⟩
theorem zs_catch {cells slots k j2 n2 : Nat} {Q : State → Prop} {q : Addr} {ce : Cell} {rest : List Value} (h0 : 0 < j) (h1 : j < 317) (C : zAct p l R s m args meth c K j d) (hNc : zNcs s) (hht : zHt c j) (hat : (zmc j).1[t]? = some (.invokeinterface j2 n2)) (hpc : (zpc j)[t]? = some pc)
    (hk : 100 ≤ k ∧ k < 105) (hcell : H[q]? = some ce) (hv : ce.vm = .none) (hcl : s.vm.findClass (zExN k) = some ce.cls)
    (hin : ∀ h hp, zhd (zmc j).2.1 k = some h → (zpc j)[h]? = some hp → W p l e R s m args below meth c H locs cells slots Q (F0 m hp lm [.ref q]))
    (hout : zhd (zmc j).2.1 k = none → (∀ z ∈ c.exceptionTable.toList, covers z pc = false ∨ (z.catchType ≠ 0 ∧ ∃ nm : String, (Cond.classLink (zcn (zmo j)) z.catchType nm).before args s = true ∧ va_Nc (zExN k) nm s)) → vx_W p l e R s m args below meth c H locs cells slots Q (F0 m pc lm rest) q) :
    vx_W p l e R s m args below meth c H locs cells slots Q (F0 m pc lm rest) q := by
  have hz := zHc_ok h0 h1
  unfold zHc at hz
  rw [Bool.and_eq_true] at hz
  obtain ⟨z1, z2⟩ := hz
  have hT : c.exceptionTable.toList.map zxt = zmh j := hht
  rw [← hT] at z1 z2
  have z1 := Nat.eq_of_beq_eq_true z1
  rw [List.length_map] at z1
  have hpass : ∀ z : ExceptionTableEntry, (∃ e h, e ≠ k ∧ zHe j (zxt z) (e, h) = true) → z.catchType ≠ 0 ∧ ∃ nm : String, (Cond.classLink (zcn (zmo j)) z.catchType nm).before args s = true ∧ va_Nc (zExN k) nm s := by
    intro z ⟨e2, h, g1, g2⟩
    obtain ⟨f1, f2, f3, f4, f5, f6⟩ := zHe_use (b := .nop) C g2 hat hpc
    refine ⟨f3, _, f5, ?_⟩
    have := hNc (k - 100) (e2 - 100) (by omega) (by omega) (by omega)
    rwa [show 100 + (k - 100) = k by omega, show 100 + (e2 - 100) = e2 by omega] at this
  rcases zhl_ok (k := k) _ _ z1 z2 with ⟨g1, g2⟩ | ⟨pre, x, suf, h, g1, g2, g3, g4⟩
  · exact hout g1 (fun z hz => Or.inr (hpass z (g2 z hz)))
  · obtain ⟨f1, f2, f3, f4, f5, f6⟩ := zHe_use (b := .nop) C g3 hat hpc
    exact vx_catch C.2.2.2.1 pre x suf g1 (fun z hz => Or.inr (hpass z (g4 z hz))) f6 f3 f5 (zbf_ok C (zCs_ok hk.1 hk.2)) hcell hv hcl (hin h _ g2 f4)
end ZU
