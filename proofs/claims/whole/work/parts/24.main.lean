/-! ## the end of a method -/
theorem znw_ne {u k : Nat} {y : Int} {is : zL} {ls st : List zV} {σ : zS} {A : zA} (h : znw u y k is ls st σ = some A) : ∃ f, A = .inl f := by
  unfold znw at h
  split at h
  · cases h
    exact ⟨_, rfl⟩
  · cases h
def zIsE (A : zA) : Prop := match A with
  | .inr (.inr (.inr (.inr (.inl _)))) => True
  | .inr (.inr (.inr (.inr (.inr _)))) => True
  | _ => False
theorem zPl.ne {A : zA} (h : zPl A) : ¬ zIsE A := by
  rcases A with _ | _ | _ | _ | _ | _ <;> first | exact fun z => z | exact h.elim
/-- what ends a method -/
def zEnds (c : zC) (is : zL) (st : List zV) (σ : zS) (v : zV) (σ' : zS) : Prop :=
  (∃ k is', is = .new k :: is' ∧ 100 ≤ k ∧ st = [] ∧ v = (k, 0, 0) ∧ σ' = (σ.1, σ.2.1, σ.2.2.1 + 1, σ.2.2.2.1 + 6, σ.2.2.2.2)) ∨
  (∃ is' x y, is = .ireturn :: is' ∧ st = [(0, x, y)] ∧ v = (0, x, y) ∧ σ' = σ ∧ (c.2.2 = 0 ∨ (c.2.2 = 1 ∧ 0 ≤ x + 128 ∧ x + 128 < 256) ∨ (∃ n, c.2.2 = n + 2 ∧ 0 ≤ x ∧ x < ((n + 2 : Nat) : Int)))) ∨
  (∃ is' x y, is = .lreturn :: is' ∧ st = [(1, x, y)] ∧ v = (1, x, y) ∧ σ' = σ) ∨
  (∃ is' t x y, is = .areturn :: is' ∧ st = [(t, x, y)] ∧ v = (t, x, y) ∧ σ' = σ ∧ (t = 5 ∨ 10 ≤ t)) ∨
  (∃ is', is = .return_ :: is' ∧ st = [] ∧ v = (9, 0, 0) ∧ σ' = σ)
def zEndA (c : zC) (is : zL) (st : List zV) (σ : zS) (A : zA) : Prop := match A with
  | .inr (.inr (.inr (.inr (.inl (v, σ'))))) => zEnds c is st σ v σ'
  | .inr (.inr (.inr (.inr (.inr (g, v, σ'))))) => zgd g → zEnds c is st σ v σ'
  | _ => True
theorem zEndA_pl {c : zC} {is : zL} {st : List zV} {σ : zS} {A : zA} (h : zPl A) : zEndA c is st σ A := by
  rcases A with _ | _ | _ | _ | _ | _ <;> first | exact trivial | exact h.elim
theorem zstN_end {q : zQ} {c : zC} {i : Instr} {is : zL} {ls st : List zV} {σ : zS} {A : zA} (h : zstN q i is ls st σ = some A) : zEndA c (i :: is) st σ A := by
  delta zstN at h
  try dsimp only at h
  repeat' split at h
  all_goals first
    | (cases h; done)
    | (obtain ⟨f, rfl⟩ := znw_ne h; exact trivial)
    | (cases h; exact trivial)
    | (rename_i hk; cases h; exact Or.inl ⟨_, _, rfl, Nat.le_of_ble_eq_true hk, rfl, rfl, rfl⟩)
    | (rename_i hk _; cases h; exact Or.inl ⟨_, _, rfl, Nat.le_of_ble_eq_true hk, rfl, rfl, rfl⟩)
theorem zstR_end {c : zC} {r : Nat} {i : Instr} {is : zL} {st : List zV} {σ : zS} {A : zA} (hr9 : i = .ireturn → r = c.2.2) (h : zstR r i st σ = some A) : zEndA c (i :: is) st σ A := by
  delta zstR at h
  try dsimp only at h
  split at h
  · split at h
    · split at h
      · cases h
        exact Or.inr (Or.inl ⟨_, _, _, rfl, rfl, rfl, rfl, Or.inl (hr9 rfl).symm⟩)
      · cases h
        exact fun hg => Or.inr (Or.inl ⟨_, _, _, rfl, rfl, rfl, rfl, Or.inr (Or.inl ⟨(hr9 rfl).symm, hg.1, hg.2⟩)⟩)
      · rename_i n
        cases h
        exact fun hg => Or.inr (Or.inl ⟨_, _, _, rfl, rfl, rfl, rfl, Or.inr (Or.inr ⟨n, (hr9 rfl).symm, hg.1, hg.2⟩)⟩)
    · cases h
  · split at h
    · cases h
      exact Or.inr (Or.inr (Or.inl ⟨_, _, _, rfl, rfl, rfl, rfl⟩))
    · cases h
  · split at h
    · split at h
      · rename_i hb
        cases h
        rw [Bool.or_eq_true] at hb
        exact Or.inr (Or.inr (Or.inr (Or.inl ⟨_, _, _, _, rfl, rfl, rfl, rfl, hb.elim (fun z => Or.inl (Nat.eq_of_beq_eq_true z)) (fun z => Or.inr (Nat.le_of_ble_eq_true z))⟩)))
      · cases h
    · cases h
  · split at h
    · cases h
      exact Or.inr (Or.inr (Or.inr (Or.inr ⟨_, rfl, rfl, rfl, rfl⟩)))
    · cases h
  · cases h
theorem zst_end {q : zQ} {c : zC} {is : zL} {ls st : List zV} {σ : zS} {A : zA} (h : zst q c is ls st σ = some A) : zEndA c is st σ A := by
  delta zst at h
  try dsimp only at h
  repeat' split at h
  all_goals first
    | (cases h; done)
    | exact zEndA_pl (zstM_pl h)
    | exact zstN_end h
    | exact zstR_end (fun _ => rfl) h
    | exact zstR_end (fun z => by cases z) h
    | exact zEndA_pl (zstI_pl h)
    | (cases h; exact trivial)
section ZE
variable {p : Program} {l : Launch} {e : Env} {R : Room} {s : State} {m : MethodId} {args : Array Value} {below : List Frame} {meth : Method} {c : Code} {Q : State → Prop} {K : zCx} {ph : Bool} {j d : Nat} {ad0 : Nat → Nat} {n0 c0 s0 : Nat}
theorem zs_end {is : zL} {ls st : List zV} {σ : zS} {r : zV × zS} (h0 : 0 < j) (h1 : j < 316) (hE : zEnds (zmc j) is st σ r.1 r.2) (hht : zHt c j) (C : zAct p l R s m args meth c K j d) (hRc : r.2.2.2.1 - c0 ≤ R.cells) (hRs : r.2.2.2.2.1 - s0 ≤ R.slots) :
    zGo p l e R s m args below meth c (vx_MQ below (zQc K ph ad0 n0 r) (zXC K ph ad0 n0 r) args s (r.2.2.2.1 - c0) (r.2.2.2.2.1 - s0) K.A) K ph j ad0 n0 c0 s0 is ls st σ := by
  intro ad H locs lm sm pc t hag hi hpc hP hS hL hR hn hc hs
  obtain ⟨v, σ'⟩ := r
  dsimp only at hE
  rcases hE with ⟨k, is', rfl, h100, rfl, rfl, rfl⟩ | ⟨is', x, y, rfl, rfl, rfl, rfl, hk⟩ | ⟨is', x, y, rfl, rfl, rfl, rfl⟩ | ⟨is', u, x, y, rfl, rfl, rfl, rfl, hu⟩ | ⟨is', rfl, rfl, rfl, rfl⟩
  · obtain ⟨hat, hi2, len, r, e2, e3, hpc2⟩ := zpos h0 (by omega) hi hpc
    cases zRels_nil hR
    exact zs_throw h100 h0 (by omega) hat (hpc.resolve_left (fun z => by cases z)) hht hRc hRs C hag hP hS hL hn hc hs
  · obtain ⟨hat, hi2, len, r, e2, e3, hpc2⟩ := zpos h0 (by omega) hi hpc
    obtain ⟨rfl, rfl⟩ := zk_ireturn e3
    exact zs_ireturn e2 h0 h1 hat hk C hag hP hS hR hn
  · obtain ⟨hat, hi2, len, r, e2, e3, hpc2⟩ := zpos h0 (by omega) hi hpc
    obtain ⟨rfl, rfl⟩ := zk_lreturn e3
    exact zs_lreturn e2 h0 h1 hat C hag hP hS hR hn
  · obtain ⟨hat, hi2, len, r, e2, e3, hpc2⟩ := zpos h0 (by omega) hi hpc
    obtain ⟨rfl, rfl⟩ := zk_areturn e3
    exact zs_areturn e2 h0 h1 hat hu C hag hP hS hR hn
  · obtain ⟨hat, hi2, len, r, e2, e3, hpc2⟩ := zpos h0 (by omega) hi hpc
    obtain ⟨rfl, rfl⟩ := zk_return_ e3
    exact zs_return e2 h0 h1 hat C hag hP hS hR hn
theorem zk_call {o : Nat} {pcs : List Nat} {pc len : Nat} {r : Instr} {j2 n2 : Nat} (h : zck o pcs pc len r (.invokeinterface j2 n2) = true) : n2 = zmn j2 ∧ len = 3 ∧ 0 < j2 ∧ j2 < 316 ∧ ∃ i, zkind j2 o i r := by
  have h1 : zckl o len r (.invokeinterface j2 n2) = true := h
  delta zckl at h1
  dsimp only at h1
  rw [Bool.and_eq_true, Bool.and_eq_true, Bool.and_eq_true, Bool.and_eq_true] at h1
  obtain ⟨⟨⟨⟨a1, a2⟩, a3⟩, a4⟩, a5⟩ := h1
  refine ⟨Nat.eq_of_beq_eq_true a1, Nat.eq_of_beq_eq_true a2, Nat.le_of_ble_eq_true a3, Nat.le_of_ble_eq_true a4, ?_⟩
  split at a5
  · rename_i i
    rw [Bool.and_eq_true, Bool.and_eq_true] at a5
    obtain ⟨⟨b1, b2⟩, b3⟩ := a5
    exact ⟨i, Or.inl ⟨rfl, by simpa using b1, of_decide_eq_true b2, b3⟩⟩
  · rename_i i
    rw [Bool.and_eq_true] at a5
    exact ⟨i, Or.inr (Or.inl ⟨rfl, a5.1, a5.2⟩)⟩
  · rename_i i
    rw [Bool.and_eq_true, Bool.and_eq_true, Bool.and_eq_true] at a5
    obtain ⟨⟨⟨b1, b2⟩, b4⟩, b3⟩ := a5
    exact ⟨i, Or.inr (Or.inr ⟨rfl, by simpa using b1, of_decide_eq_true b2, of_decide_eq_true b4, b3⟩)⟩
  · cases a5
end ZE
theorem zpc0_all : (List.range 316).all (fun i => (zpc (1 + i)).head? == some 0) = true := by decide +kernel
theorem zpc0 {j : Nat} (h0 : 0 < j) (h : j < 317) : (zpc j)[0]? = some 0 := by
  have := List.all_eq_true.mp zpc0_all (j - 1) (List.mem_range.mpr (by omega))
  rw [show 1 + (j - 1) = j by omega] at this
  have h2 : (zpc j).head? = some 0 := by simpa using this
  rw [← h2, List.head?_eq_getElem?]
/-- the end of a run that a method is left by with something thrown -/
def zUp (p : Program) (l : Launch) (e : Env) (R : Room) (s : State) (m : MethodId) (args : Array Value) (below : List Frame) (meth : Method) (c : Code) (Q : State → Prop) (K : zCx) (ph : Bool) (j : Nat) (ad0 : Nat → Nat) (n0 c0 s0 : Nat) (r : zV × zS) : Prop :=
  100 ≤ r.1.1 ∧ r.1.1 < 105 → ∀ (ad' : Nat → Nat) (q : Addr) (ce : Cell) (H1 : Heap) (locs1 : List Loc) (lm : Array Slot) (rest : List Value) (pc : Nat), zag ad0 ad' n0 → zPic K ph ad' r.2 H1 → va_S K.A s.heap H1 locs1 → n0 ≤ r.2.2.2.2.2.1 → H1[q]? = some ce → ce.vm = .none → s.vm.findClass (zExN r.1.1) = some ce.cls →
    (∀ z ∈ c.exceptionTable.toList, covers z pc = false ∨ (z.catchType ≠ 0 ∧ ∃ nm : String, (Cond.classLink (zcn (zmo j)) z.catchType nm).before args s = true ∧ va_Nc (zExN r.1.1) nm s)) →
    vx_W p l e R s m args below meth c H1 locs1 (r.2.2.2.1 - c0) (r.2.2.2.2.1 - s0) Q (F0 m pc lm rest) q
