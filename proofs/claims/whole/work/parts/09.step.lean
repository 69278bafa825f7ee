/-! ## what holds where a method runs -/
def zTys (K : zCx) : List (ClassId × FieldType) := [(K.cA 30, .int), (K.cA 31, .long), (K.cA 32, .object "CyclicLines$Line"), (K.cA 33, .object "CyclicLines$World"), (K.cA 34, .object "CyclicLines$Word")]
/-- words that hold on, each by a law of its own -/
def zisNw : Jvm.Cond → Bool
  | .fieldLinkNest .. => true
  | .methodLinkNest .. => true
  | .declares _ => true
  | .castable .. => true
  | _ => false
theorem zNw_warm {w : Jvm.Cond} {s U : State} (hw : zisNw w = true) (hW : s.WarmedH U.vm) (h : va_Nw w s) : va_Nw w U := by
  cases w <;> first | exact va_Nw.warmF hW h | exact va_Nw.warmM hW h | exact va_Nw.warmD hW h | exact va_Nw.warmC hW h | (simp [zisNw] at hw)
def zCstS (K : zCx) (s : State) (i : Nat) : Prop := va_O "java/lang/String" (K.adK i) K.A s s.heap ∧ va_OF "java/lang/String" "coder" "B" (.int 0) (K.adK i) K.A s s.heap ∧ va_OF "java/lang/String" "value" "[B" (.ref (K.adV i)) (K.adK i) K.A s s.heap ∧
  va_T .byte (K.adV i) (zTx i).length (fun k => .int (Int32.ofInt ((zTx i).getD k 0))) K.A s s.heap
def zCstW (K : zCx) (s : State) (i : Nat) : Prop := va_Z "CyclicLines$Word" (zWnm.getD i "") "LCyclicLines$Word;" (.ref (K.adW i)) K.A s s.heap ∧ va_O "CyclicLines$Word" (K.adW i) K.A s s.heap ∧
  va_OF "CyclicLines$Word" "fact" "I" (.int (Int32.ofInt (zWfc i))) (K.adW i) K.A s s.heap ∧ va_OF "CyclicLines$Word" "written" "Ljava/lang/String;" (.ref (K.adK (zWtx i).toNat)) (K.adW i) K.A s s.heap
/-- the exceptions that are thrown with a text: class, own class, the text's place -/
def zCst (K : zCx) (s : State) : Prop :=
  va_K K.D zCl (zTys K) s ∧ (∀ w ∈ lw_tbl, zisNw w = true → va_Nw w s) ∧ (va_AO "CyclicLines$Line" s ∧ va_AO "CyclicLines$World" s ∧ va_AO "CyclicLines$Word" s) ∧
  (∀ i, i < 31 → zCstS K s i) ∧ (∀ q ∈ zSL, ∃ tx, vk_R (zcn q.1) q.2.1 tx (K.adK q.2.2) s) ∧ (∀ w ∈ lw_tbl, ∀ own k tx, w = .stringRef own k tx → ∃ sa, vk_R own k tx sa s) ∧
  (∀ i, i < 33 → zCstW K s i) ∧ (∀ i k, i < 33 → k < 33 → K.adW i = K.adW k → i = k) ∧
  (va_Z "CyclicLines" "WORDS" "[LCyclicLines$Word;" (.ref K.tW) K.A s s.heap ∧ va_T (.object "CyclicLines$Word") K.tW 33 (fun i => .ref (K.adW i)) K.A s s.heap) ∧
  va_Z "java/lang/String" "COMPACT_STRINGS" "Z" (.int 1) K.A s s.heap ∧ va_Zq "jdk/internal/util/Preconditions" "SIOOBE_FORMATTER" "Ljava/util/function/BiFunction;" K.A s s.heap ∧
  (vx_Zq Bundle.tN "UNASSIGNED_STACK" Bundle.steD K.A s s.heap ∧ vx_Zq Bundle.tN "SUPPRESSED_SENTINEL" Bundle.listD K.A s s.heap) ∧
  (va_X K.b K.L K.xs s s.heap ∧ K.b < s.heap.size ∧ ¬ K.A K.b) ∧ K.base ≤ s.heap.size
theorem va_X.kept2 {b L : Nat} {xs : Nat → Int32} {A : Nat → Prop} {U : State} {H H1 : Heap} (h : va_X b L xs U H) (hb : ¬ A b) (hq : ∀ a : Nat, a < H.size → ¬ A a → H1[a]? = H[a]?) : va_X b L xs U H1 := by
  refine h.kept (hq b ?_ hb)
  obtain ⟨scr, h1, -⟩ := h
  exact (Array.getElem?_eq_some_iff.mp h1).1
theorem zCst.moved {K : zCx} {s U : State} {H : Heap} {locs : List Loc} (h : zCst K s) (hU : U.heap = H) (hS : va_S K.A s.heap H locs) (hW : s.WarmedH U.vm) : zCst K U := by
  have hvm := hW.alike
  have hq : ∀ a : Nat, a < s.heap.size → ¬ K.A a → H[a]? = s.heap[a]? := hS.2.1
  subst hU
  obtain ⟨h1, h2, ⟨h3, h4, h5⟩, h6, h7, h8, h9, h10, ⟨h11, h12⟩, h13, h14, ⟨h15, h16⟩, ⟨h17, h18, h19⟩, h20⟩ := h
  refine ⟨va_K.moved hvm h1, fun w hw hg => zNw_warm hg hW (h2 w hw hg), ⟨va_AO.moved hvm h3, va_AO.moved hvm h4, va_AO.moved hvm h5⟩, fun i hi => ?_, fun q hq => ?_, fun w hw own k tx e => ?_, fun i hi => ?_, h10, ⟨?_, ?_⟩, ?_, ?_, ⟨?_, ?_⟩, ⟨?_, ?_, h19⟩, Nat.le_trans h20 hS.1⟩
  · obtain ⟨a1, a2, a3, a4⟩ := h6 i hi
    exact ⟨va_O.moved hvm (a1.kept hq), va_OF.moved hvm (a2.kept hq), va_OF.moved hvm (a3.kept hq), va_T.moved hvm (a4.kept hq)⟩
  · obtain ⟨tx, e⟩ := h7 q hq
    exact ⟨tx, e.warm hW⟩
  · obtain ⟨sa, e2⟩ := h8 w hw own k tx e
    exact ⟨sa, e2.warm hW⟩
  · obtain ⟨a1, a2, a3, a4⟩ := h9 i hi
    exact ⟨va_Z.moved hvm (a1.kept hq), va_O.moved hvm (a2.kept hq), va_OF.moved hvm (a3.kept hq), va_OF.moved hvm (a4.kept hq)⟩
  · exact va_Z.moved hvm (h11.kept hq)
  · exact va_T.moved hvm (h12.kept hq)
  · exact va_Z.moved hvm (h13.kept hq)
  · rcases h14 with h | ⟨t, h⟩
    · exact Or.inl (va_Z.moved hvm (h.kept hq))
    · exact Or.inr ⟨t, va_Z.moved hvm (h.kept hq)⟩
  · exact vx_Zq.moved hvm (h15.kept hq)
  · exact vx_Zq.moved hvm (h16.kept hq)
  · exact va_X.moved hvm (h17.kept2 h19 hq)
  · exact Nat.lt_of_lt_of_le h18 hS.1
def zAct (p : Program) (l : Launch) (R : Room) (s : State) (m : MethodId) (args : Array Value) (meth : Method) (c : Code) (K : zCx) (j d : Nat) : Prop :=
  p.tables.exec = Jvm.exec ∧ c.code = zmb j ∧ c.maxLocals = zml j ∧ s.vm.findClass (zcn (zmo j)) = some m.cls ∧ (∀ w ∈ lw_tbl, goodWord w = true → w.before args s = true) ∧ zCst K s ∧ l.stackTraces = false ∧ meth.locks = false ∧
  meth.sig.returnType = zmr j ∧ ((zmy j).name = "<init>" → meth.name = "<init>") ∧ 16 + d ≤ R.frames ∧ 300 + 40 * d ≤ R.locals
/-- at such a point of the abstract run the machine goes on to Q -/
def zGo (p : Program) (l : Launch) (e : Env) (R : Room) (s : State) (m : MethodId) (args : Array Value) (below : List Frame) (meth : Method) (c : Code) (Q : State → Prop) (K : zCx) (ph : Bool) (j : Nat) (ad0 : Nat → Nat) (n0 c0 s0 : Nat) (is : zL) (ls st : List zV) (σ : zS) : Prop :=
  ∀ (ad : Nat → Nat) (H : Heap) (locs : List Loc) (lm : Array Slot) (sm : List Value) (pc t : Nat), zag ad0 ad n0 → is = zdrop (zmc j).1 t → (is = [] ∨ (zpc j)[t]? = some pc) → zPic K ph ad σ H → va_S K.A s.heap H locs →
    zLoc K ad σ.2.2.2.2.1 lm (zml j) ls → zRels K ad σ.2.2.2.2.1 st sm → n0 ≤ σ.2.2.2.2.1 → c0 ≤ σ.2.2.1 → s0 ≤ σ.2.2.2.1 → W p l e R s m args below meth c H locs (σ.2.2.1 - c0) (σ.2.2.2.1 - s0) Q (F0 m pc lm sm)
theorem zdrop_at : ∀ (l : zL) (t : Nat) (x : Instr) (is : zL), x :: is = zdrop l t → l[t]? = some x ∧ is = zdrop l (t + 1) := by
  intro l
  induction l with
  | nil =>
    intro t x is h
    cases t <;> simp [zdrop] at h
  | cons y l ih =>
    intro t x is h
    cases t with
    | zero =>
      simp only [zdrop, List.cons.injEq] at h
      obtain ⟨rfl, rfl⟩ := h
      exact ⟨rfl, by cases is <;> rfl⟩
    | succ t =>
      simp only [zdrop] at h
      obtain ⟨h1, h2⟩ := ih t x is h
      exact ⟨by rw [List.getElem?_cons_succ]; exact h1, h2⟩
theorem zdrop_ne : ∀ (l : zL) (t : Nat), zdrop l t ≠ [] → ∃ x, l[t]? = some x := by
  intro l
  induction l with
  | nil => intro t h; cases t <;> exact absurd rfl h
  | cons y l ih =>
    intro t h
    cases t with
    | zero => exact ⟨y, rfl⟩
    | succ t =>
      obtain ⟨x, hx⟩ := ih t h
      exact ⟨x, by rw [List.getElem?_cons_succ]; exact hx⟩
theorem ztg_ok {pcs : List Nat} {pc : Nat} {off t : Int} (h : ztg pcs pc off t = true) : ∃ p : Nat, pcs[t.toNat]? = some p ∧ (pc : Int) + off = (p : Int) := by
  unfold ztg at h
  rw [Bool.and_eq_true] at h
  obtain ⟨h1, h2⟩ := h
  split at h2
  · rename_i q hq
    exact ⟨q, hq, by simpa using h2⟩
  · cases h2
