/-! ## the real instruction -/
def zqq (K : zCx) (ph : Bool) : zQ := (ph, (K.L : Int), fun i => (K.xs i.toNat).toInt)
/-- what is known of where a step goes on -/
def zGoA (p : Program) (l : Launch) (e : Env) (R : Room) (s : State) (m : MethodId) (args : Array Value) (below : List Frame) (meth : Method) (c : Code) (Q : State → Prop) (K : zCx) (ph : Bool) (j : Nat) (ad0 : Nat → Nat) (n0 c0 s0 : Nat) (A : zA) : Prop := match A with
  | .inl (is, ls, st, σ) => σ.2.2.1 - c0 ≤ R.cells ∧ σ.2.2.2.1 - s0 ≤ R.slots ∧ zGo p l e R s m args below meth c Q K ph j ad0 n0 c0 s0 is ls st σ
  | .inr (.inl ((o, x, y), (is1, ls1, st1, σ1), (is2, ls2, st2, σ2))) => (zcnd o x y → zGo p l e R s m args below meth c Q K ph j ad0 n0 c0 s0 is1 ls1 st1 σ1) ∧ (¬ zcnd o x y → zGo p l e R s m args below meth c Q K ph j ad0 n0 c0 s0 is2 ls2 st2 σ2)
  | .inr (.inr (.inl (g, is, ls, st, σ))) => zgd g ∧ zGo p l e R s m args below meth c Q K ph j ad0 n0 c0 s0 is ls st σ
  | _ => False
theorem zk_iadd {o : Nat} {pcs : List Nat} {pc len : Nat} {r : Instr} (h : zck o pcs pc len r .iadd = true) : r = .iadd ∧ len = 1 := by
  have h1 : zck1 len r .iadd = true := h
  delta zck1 at h1
  dsimp only at h1
  rw [Bool.and_eq_true] at h1
  obtain ⟨h2, h3⟩ := h1
  split at h3
  · exact ⟨rfl, Nat.eq_of_beq_eq_true h2⟩
  · cases h3
theorem zk_isub {o : Nat} {pcs : List Nat} {pc len : Nat} {r : Instr} (h : zck o pcs pc len r .isub = true) : r = .isub ∧ len = 1 := by
  have h1 : zck1 len r .isub = true := h
  delta zck1 at h1
  dsimp only at h1
  rw [Bool.and_eq_true] at h1
  obtain ⟨h2, h3⟩ := h1
  split at h3
  · exact ⟨rfl, Nat.eq_of_beq_eq_true h2⟩
  · cases h3
theorem zk_imul {o : Nat} {pcs : List Nat} {pc len : Nat} {r : Instr} (h : zck o pcs pc len r .imul = true) : r = .imul ∧ len = 1 := by
  have h1 : zck1 len r .imul = true := h
  delta zck1 at h1
  dsimp only at h1
  rw [Bool.and_eq_true] at h1
  obtain ⟨h2, h3⟩ := h1
  split at h3
  · exact ⟨rfl, Nat.eq_of_beq_eq_true h2⟩
  · cases h3
theorem zk_idiv {o : Nat} {pcs : List Nat} {pc len : Nat} {r : Instr} (h : zck o pcs pc len r .idiv = true) : r = .idiv ∧ len = 1 := by
  have h1 : zck1 len r .idiv = true := h
  delta zck1 at h1
  dsimp only at h1
  rw [Bool.and_eq_true] at h1
  obtain ⟨h2, h3⟩ := h1
  split at h3
  · exact ⟨rfl, Nat.eq_of_beq_eq_true h2⟩
  · cases h3
theorem zk_irem {o : Nat} {pcs : List Nat} {pc len : Nat} {r : Instr} (h : zck o pcs pc len r .irem = true) : r = .irem ∧ len = 1 := by
  have h1 : zck1 len r .irem = true := h
  delta zck1 at h1
  dsimp only at h1
  rw [Bool.and_eq_true] at h1
  obtain ⟨h2, h3⟩ := h1
  split at h3
  · exact ⟨rfl, Nat.eq_of_beq_eq_true h2⟩
  · cases h3
theorem zk_ineg {o : Nat} {pcs : List Nat} {pc len : Nat} {r : Instr} (h : zck o pcs pc len r .ineg = true) : r = .ineg ∧ len = 1 := by
  have h1 : zck1 len r .ineg = true := h
  delta zck1 at h1
  dsimp only at h1
  rw [Bool.and_eq_true] at h1
  obtain ⟨h2, h3⟩ := h1
  split at h3
  · exact ⟨rfl, Nat.eq_of_beq_eq_true h2⟩
  · cases h3
theorem zk_iand {o : Nat} {pcs : List Nat} {pc len : Nat} {r : Instr} (h : zck o pcs pc len r .iand = true) : r = .iand ∧ len = 1 := by
  have h1 : zck1 len r .iand = true := h
  delta zck1 at h1
  dsimp only at h1
  rw [Bool.and_eq_true] at h1
  obtain ⟨h2, h3⟩ := h1
  split at h3
  · exact ⟨rfl, Nat.eq_of_beq_eq_true h2⟩
  · cases h3
theorem zk_ior {o : Nat} {pcs : List Nat} {pc len : Nat} {r : Instr} (h : zck o pcs pc len r .ior = true) : r = .ior ∧ len = 1 := by
  have h1 : zck1 len r .ior = true := h
  delta zck1 at h1
  dsimp only at h1
  rw [Bool.and_eq_true] at h1
  obtain ⟨h2, h3⟩ := h1
  split at h3
  · exact ⟨rfl, Nat.eq_of_beq_eq_true h2⟩
  · cases h3
theorem zk_ixor {o : Nat} {pcs : List Nat} {pc len : Nat} {r : Instr} (h : zck o pcs pc len r .ixor = true) : r = .ixor ∧ len = 1 := by
  have h1 : zck1 len r .ixor = true := h
  delta zck1 at h1
  dsimp only at h1
  rw [Bool.and_eq_true] at h1
  obtain ⟨h2, h3⟩ := h1
  split at h3
  · exact ⟨rfl, Nat.eq_of_beq_eq_true h2⟩
  · cases h3
theorem zk_ishl {o : Nat} {pcs : List Nat} {pc len : Nat} {r : Instr} (h : zck o pcs pc len r .ishl = true) : r = .ishl ∧ len = 1 := by
  have h1 : zck1 len r .ishl = true := h
  delta zck1 at h1
  dsimp only at h1
  rw [Bool.and_eq_true] at h1
  obtain ⟨h2, h3⟩ := h1
  split at h3
  · exact ⟨rfl, Nat.eq_of_beq_eq_true h2⟩
  · cases h3
theorem zk_ishr {o : Nat} {pcs : List Nat} {pc len : Nat} {r : Instr} (h : zck o pcs pc len r .ishr = true) : r = .ishr ∧ len = 1 := by
  have h1 : zck1 len r .ishr = true := h
  delta zck1 at h1
  dsimp only at h1
  rw [Bool.and_eq_true] at h1
  obtain ⟨h2, h3⟩ := h1
  split at h3
  · exact ⟨rfl, Nat.eq_of_beq_eq_true h2⟩
  · cases h3
theorem zk_iushr {o : Nat} {pcs : List Nat} {pc len : Nat} {r : Instr} (h : zck o pcs pc len r .iushr = true) : r = .iushr ∧ len = 1 := by
  have h1 : zck1 len r .iushr = true := h
  delta zck1 at h1
  dsimp only at h1
  rw [Bool.and_eq_true] at h1
  obtain ⟨h2, h3⟩ := h1
  split at h3
  · exact ⟨rfl, Nat.eq_of_beq_eq_true h2⟩
  · cases h3
theorem zk_i2c {o : Nat} {pcs : List Nat} {pc len : Nat} {r : Instr} (h : zck o pcs pc len r .i2c = true) : r = .i2c ∧ len = 1 := by
  have h1 : zck1 len r .i2c = true := h
  delta zck1 at h1
  dsimp only at h1
  rw [Bool.and_eq_true] at h1
  obtain ⟨h2, h3⟩ := h1
  split at h3
  · exact ⟨rfl, Nat.eq_of_beq_eq_true h2⟩
  · cases h3
theorem zk_i2l {o : Nat} {pcs : List Nat} {pc len : Nat} {r : Instr} (h : zck o pcs pc len r .i2l = true) : r = .i2l ∧ len = 1 := by
  have h1 : zck1 len r .i2l = true := h
  delta zck1 at h1
  dsimp only at h1
  rw [Bool.and_eq_true] at h1
  obtain ⟨h2, h3⟩ := h1
  split at h3
  · exact ⟨rfl, Nat.eq_of_beq_eq_true h2⟩
  · cases h3
theorem zk_l2i {o : Nat} {pcs : List Nat} {pc len : Nat} {r : Instr} (h : zck o pcs pc len r .l2i = true) : r = .l2i ∧ len = 1 := by
  have h1 : zck1 len r .l2i = true := h
  delta zck1 at h1
  dsimp only at h1
  rw [Bool.and_eq_true] at h1
  obtain ⟨h2, h3⟩ := h1
  split at h3
  · exact ⟨rfl, Nat.eq_of_beq_eq_true h2⟩
  · cases h3
theorem zk_ladd {o : Nat} {pcs : List Nat} {pc len : Nat} {r : Instr} (h : zck o pcs pc len r .ladd = true) : r = .ladd ∧ len = 1 := by
  have h1 : zck1 len r .ladd = true := h
  delta zck1 at h1
  dsimp only at h1
  rw [Bool.and_eq_true] at h1
  obtain ⟨h2, h3⟩ := h1
  split at h3
  · exact ⟨rfl, Nat.eq_of_beq_eq_true h2⟩
  · cases h3
theorem zk_lmul {o : Nat} {pcs : List Nat} {pc len : Nat} {r : Instr} (h : zck o pcs pc len r .lmul = true) : r = .lmul ∧ len = 1 := by
  have h1 : zck1 len r .lmul = true := h
  delta zck1 at h1
  dsimp only at h1
  rw [Bool.and_eq_true] at h1
  obtain ⟨h2, h3⟩ := h1
  split at h3
  · exact ⟨rfl, Nat.eq_of_beq_eq_true h2⟩
  · cases h3
theorem zk_ldiv {o : Nat} {pcs : List Nat} {pc len : Nat} {r : Instr} (h : zck o pcs pc len r .ldiv = true) : r = .ldiv ∧ len = 1 := by
  have h1 : zck1 len r .ldiv = true := h
  delta zck1 at h1
  dsimp only at h1
  rw [Bool.and_eq_true] at h1
  obtain ⟨h2, h3⟩ := h1
  split at h3
  · exact ⟨rfl, Nat.eq_of_beq_eq_true h2⟩
  · cases h3
theorem zk_lcmp {o : Nat} {pcs : List Nat} {pc len : Nat} {r : Instr} (h : zck o pcs pc len r .lcmp = true) : r = .lcmp ∧ len = 1 := by
  have h1 : zck1 len r .lcmp = true := h
  delta zck1 at h1
  dsimp only at h1
  rw [Bool.and_eq_true] at h1
  obtain ⟨h2, h3⟩ := h1
  split at h3
  · exact ⟨rfl, Nat.eq_of_beq_eq_true h2⟩
  · cases h3
theorem zk_dup {o : Nat} {pcs : List Nat} {pc len : Nat} {r : Instr} (h : zck o pcs pc len r .dup = true) : r = .dup ∧ len = 1 := by
  have h1 : zck1 len r .dup = true := h
  delta zck1 at h1
  dsimp only at h1
  rw [Bool.and_eq_true] at h1
  obtain ⟨h2, h3⟩ := h1
  split at h3
  · exact ⟨rfl, Nat.eq_of_beq_eq_true h2⟩
  · cases h3
theorem zk_dup2 {o : Nat} {pcs : List Nat} {pc len : Nat} {r : Instr} (h : zck o pcs pc len r .dup2 = true) : r = .dup2 ∧ len = 1 := by
  have h1 : zck1 len r .dup2 = true := h
  delta zck1 at h1
  dsimp only at h1
  rw [Bool.and_eq_true] at h1
  obtain ⟨h2, h3⟩ := h1
  split at h3
  · exact ⟨rfl, Nat.eq_of_beq_eq_true h2⟩
  · cases h3
theorem zk_pop {o : Nat} {pcs : List Nat} {pc len : Nat} {r : Instr} (h : zck o pcs pc len r .pop = true) : r = .pop ∧ len = 1 := by
  have h1 : zck1 len r .pop = true := h
  delta zck1 at h1
  dsimp only at h1
  rw [Bool.and_eq_true] at h1
  obtain ⟨h2, h3⟩ := h1
  split at h3
  · exact ⟨rfl, Nat.eq_of_beq_eq_true h2⟩
  · cases h3
theorem zk_arraylength {o : Nat} {pcs : List Nat} {pc len : Nat} {r : Instr} (h : zck o pcs pc len r .arraylength = true) : r = .arraylength ∧ len = 1 := by
  have h1 : zck1 len r .arraylength = true := h
  delta zck1 at h1
  dsimp only at h1
  rw [Bool.and_eq_true] at h1
  obtain ⟨h2, h3⟩ := h1
  split at h3
  · exact ⟨rfl, Nat.eq_of_beq_eq_true h2⟩
  · cases h3
theorem zk_iaload {o : Nat} {pcs : List Nat} {pc len : Nat} {r : Instr} (h : zck o pcs pc len r .iaload = true) : r = .iaload ∧ len = 1 := by
  have h1 : zck1 len r .iaload = true := h
  delta zck1 at h1
  dsimp only at h1
  rw [Bool.and_eq_true] at h1
  obtain ⟨h2, h3⟩ := h1
  split at h3
  · exact ⟨rfl, Nat.eq_of_beq_eq_true h2⟩
  · cases h3
theorem zk_iastore {o : Nat} {pcs : List Nat} {pc len : Nat} {r : Instr} (h : zck o pcs pc len r .iastore = true) : r = .iastore ∧ len = 1 := by
  have h1 : zck1 len r .iastore = true := h
  delta zck1 at h1
  dsimp only at h1
  rw [Bool.and_eq_true] at h1
  obtain ⟨h2, h3⟩ := h1
  split at h3
  · exact ⟨rfl, Nat.eq_of_beq_eq_true h2⟩
  · cases h3
theorem zk_laload {o : Nat} {pcs : List Nat} {pc len : Nat} {r : Instr} (h : zck o pcs pc len r .laload = true) : r = .laload ∧ len = 1 := by
  have h1 : zck1 len r .laload = true := h
  delta zck1 at h1
  dsimp only at h1
  rw [Bool.and_eq_true] at h1
  obtain ⟨h2, h3⟩ := h1
  split at h3
  · exact ⟨rfl, Nat.eq_of_beq_eq_true h2⟩
  · cases h3
theorem zk_lastore {o : Nat} {pcs : List Nat} {pc len : Nat} {r : Instr} (h : zck o pcs pc len r .lastore = true) : r = .lastore ∧ len = 1 := by
  have h1 : zck1 len r .lastore = true := h
  delta zck1 at h1
  dsimp only at h1
  rw [Bool.and_eq_true] at h1
  obtain ⟨h2, h3⟩ := h1
  split at h3
  · exact ⟨rfl, Nat.eq_of_beq_eq_true h2⟩
  · cases h3
theorem zk_baload {o : Nat} {pcs : List Nat} {pc len : Nat} {r : Instr} (h : zck o pcs pc len r .baload = true) : r = .baload ∧ len = 1 := by
  have h1 : zck1 len r .baload = true := h
  delta zck1 at h1
  dsimp only at h1
  rw [Bool.and_eq_true] at h1
  obtain ⟨h2, h3⟩ := h1
  split at h3
  · exact ⟨rfl, Nat.eq_of_beq_eq_true h2⟩
  · cases h3
theorem zk_aaload {o : Nat} {pcs : List Nat} {pc len : Nat} {r : Instr} (h : zck o pcs pc len r .aaload = true) : r = .aaload ∧ len = 1 := by
  have h1 : zck1 len r .aaload = true := h
  delta zck1 at h1
  dsimp only at h1
  rw [Bool.and_eq_true] at h1
  obtain ⟨h2, h3⟩ := h1
  split at h3
  · exact ⟨rfl, Nat.eq_of_beq_eq_true h2⟩
  · cases h3
theorem zk_aastore {o : Nat} {pcs : List Nat} {pc len : Nat} {r : Instr} (h : zck o pcs pc len r .aastore = true) : r = .aastore ∧ len = 1 := by
  have h1 : zck1 len r .aastore = true := h
  delta zck1 at h1
  dsimp only at h1
  rw [Bool.and_eq_true] at h1
  obtain ⟨h2, h3⟩ := h1
  split at h3
  · exact ⟨rfl, Nat.eq_of_beq_eq_true h2⟩
  · cases h3
theorem zk_aconst_null {o : Nat} {pcs : List Nat} {pc len : Nat} {r : Instr} (h : zck o pcs pc len r .aconst_null = true) : r = .aconst_null ∧ len = 1 := by
  have h1 : zck1 len r .aconst_null = true := h
  delta zck1 at h1
  dsimp only at h1
  rw [Bool.and_eq_true] at h1
  obtain ⟨h2, h3⟩ := h1
  split at h3
  · exact ⟨rfl, Nat.eq_of_beq_eq_true h2⟩
  · cases h3
theorem zk_ireturn {o : Nat} {pcs : List Nat} {pc len : Nat} {r : Instr} (h : zck o pcs pc len r .ireturn = true) : r = .ireturn ∧ len = 1 := by
  have h1 : zck1 len r .ireturn = true := h
  delta zck1 at h1
  dsimp only at h1
  rw [Bool.and_eq_true] at h1
  obtain ⟨h2, h3⟩ := h1
  split at h3
  · exact ⟨rfl, Nat.eq_of_beq_eq_true h2⟩
  · cases h3
theorem zk_lreturn {o : Nat} {pcs : List Nat} {pc len : Nat} {r : Instr} (h : zck o pcs pc len r .lreturn = true) : r = .lreturn ∧ len = 1 := by
  have h1 : zck1 len r .lreturn = true := h
  delta zck1 at h1
  dsimp only at h1
  rw [Bool.and_eq_true] at h1
  obtain ⟨h2, h3⟩ := h1
  split at h3
  · exact ⟨rfl, Nat.eq_of_beq_eq_true h2⟩
  · cases h3
theorem zk_areturn {o : Nat} {pcs : List Nat} {pc len : Nat} {r : Instr} (h : zck o pcs pc len r .areturn = true) : r = .areturn ∧ len = 1 := by
  have h1 : zck1 len r .areturn = true := h
  delta zck1 at h1
  dsimp only at h1
  rw [Bool.and_eq_true] at h1
  obtain ⟨h2, h3⟩ := h1
  split at h3
  · exact ⟨rfl, Nat.eq_of_beq_eq_true h2⟩
  · cases h3
theorem zk_return_ {o : Nat} {pcs : List Nat} {pc len : Nat} {r : Instr} (h : zck o pcs pc len r .return_ = true) : r = .return_ ∧ len = 1 := by
  have h1 : zck1 len r .return_ = true := h
  delta zck1 at h1
  dsimp only at h1
  rw [Bool.and_eq_true] at h1
  obtain ⟨h2, h3⟩ := h1
  split at h3
  · exact ⟨rfl, Nat.eq_of_beq_eq_true h2⟩
  · cases h3
theorem zk_iload {o : Nat} {pcs : List Nat} {pc len : Nat} {r : Instr} {k : Nat} (h : zck o pcs pc len r (.iload k) = true) : (r = .iload k ∧ len = 2) ∨ (∃ f : Fin 4, r = .iload_n f ∧ (f : Nat) = k ∧ len = 1) := by
  have h1 : zckv o len r (.iload k) = true := h
  delta zckv at h1
  dsimp only at h1
  split at h1
  · rw [Bool.and_eq_true] at h1
    have e1 := Nat.eq_of_beq_eq_true h1.1
    subst e1
    exact Or.inl ⟨rfl, Nat.eq_of_beq_eq_true h1.2⟩
  · rw [Bool.and_eq_true] at h1
    exact Or.inr ⟨_, rfl, Nat.eq_of_beq_eq_true h1.1, Nat.eq_of_beq_eq_true h1.2⟩
  · cases h1
theorem zk_lload {o : Nat} {pcs : List Nat} {pc len : Nat} {r : Instr} {k : Nat} (h : zck o pcs pc len r (.lload k) = true) : (r = .lload k ∧ len = 2) ∨ (∃ f : Fin 4, r = .lload_n f ∧ (f : Nat) = k ∧ len = 1) := by
  have h1 : zckv o len r (.lload k) = true := h
  delta zckv at h1
  dsimp only at h1
  split at h1
  · rw [Bool.and_eq_true] at h1
    have e1 := Nat.eq_of_beq_eq_true h1.1
    subst e1
    exact Or.inl ⟨rfl, Nat.eq_of_beq_eq_true h1.2⟩
  · rw [Bool.and_eq_true] at h1
    exact Or.inr ⟨_, rfl, Nat.eq_of_beq_eq_true h1.1, Nat.eq_of_beq_eq_true h1.2⟩
  · cases h1
theorem zk_aload {o : Nat} {pcs : List Nat} {pc len : Nat} {r : Instr} {k : Nat} (h : zck o pcs pc len r (.aload k) = true) : (r = .aload k ∧ len = 2) ∨ (∃ f : Fin 4, r = .aload_n f ∧ (f : Nat) = k ∧ len = 1) := by
  have h1 : zckv o len r (.aload k) = true := h
  delta zckv at h1
  dsimp only at h1
  split at h1
  · rw [Bool.and_eq_true] at h1
    have e1 := Nat.eq_of_beq_eq_true h1.1
    subst e1
    exact Or.inl ⟨rfl, Nat.eq_of_beq_eq_true h1.2⟩
  · rw [Bool.and_eq_true] at h1
    exact Or.inr ⟨_, rfl, Nat.eq_of_beq_eq_true h1.1, Nat.eq_of_beq_eq_true h1.2⟩
  · cases h1
theorem zk_istore {o : Nat} {pcs : List Nat} {pc len : Nat} {r : Instr} {k : Nat} (h : zck o pcs pc len r (.istore k) = true) : (r = .istore k ∧ len = 2) ∨ (∃ f : Fin 4, r = .istore_n f ∧ (f : Nat) = k ∧ len = 1) := by
  have h1 : zckv o len r (.istore k) = true := h
  delta zckv at h1
  dsimp only at h1
  split at h1
  · rw [Bool.and_eq_true] at h1
    have e1 := Nat.eq_of_beq_eq_true h1.1
    subst e1
    exact Or.inl ⟨rfl, Nat.eq_of_beq_eq_true h1.2⟩
  · rw [Bool.and_eq_true] at h1
    exact Or.inr ⟨_, rfl, Nat.eq_of_beq_eq_true h1.1, Nat.eq_of_beq_eq_true h1.2⟩
  · cases h1
theorem zk_lstore {o : Nat} {pcs : List Nat} {pc len : Nat} {r : Instr} {k : Nat} (h : zck o pcs pc len r (.lstore k) = true) : (r = .lstore k ∧ len = 2) ∨ (∃ f : Fin 4, r = .lstore_n f ∧ (f : Nat) = k ∧ len = 1) := by
  have h1 : zckv o len r (.lstore k) = true := h
  delta zckv at h1
  dsimp only at h1
  split at h1
  · rw [Bool.and_eq_true] at h1
    have e1 := Nat.eq_of_beq_eq_true h1.1
    subst e1
    exact Or.inl ⟨rfl, Nat.eq_of_beq_eq_true h1.2⟩
  · rw [Bool.and_eq_true] at h1
    exact Or.inr ⟨_, rfl, Nat.eq_of_beq_eq_true h1.1, Nat.eq_of_beq_eq_true h1.2⟩
  · cases h1
theorem zk_astore {o : Nat} {pcs : List Nat} {pc len : Nat} {r : Instr} {k : Nat} (h : zck o pcs pc len r (.astore k) = true) : (r = .astore k ∧ len = 2) ∨ (∃ f : Fin 4, r = .astore_n f ∧ (f : Nat) = k ∧ len = 1) := by
  have h1 : zckv o len r (.astore k) = true := h
  delta zckv at h1
  dsimp only at h1
  split at h1
  · rw [Bool.and_eq_true] at h1
    have e1 := Nat.eq_of_beq_eq_true h1.1
    subst e1
    exact Or.inl ⟨rfl, Nat.eq_of_beq_eq_true h1.2⟩
  · rw [Bool.and_eq_true] at h1
    exact Or.inr ⟨_, rfl, Nat.eq_of_beq_eq_true h1.1, Nat.eq_of_beq_eq_true h1.2⟩
  · cases h1
theorem zk_iinc {o : Nat} {pcs : List Nat} {pc len : Nat} {r : Instr} {k : Nat} {u : Int} (h : zck o pcs pc len r (.iinc k u) = true) : r = .iinc k u ∧ len = 3 := by
  have h1 : zckv o len r (.iinc k u) = true := h
  delta zckv at h1
  dsimp only at h1
  split at h1
  · rw [Bool.and_eq_true, Bool.and_eq_true] at h1
    have e1 := Nat.eq_of_beq_eq_true h1.1.1
    have e2 := of_decide_eq_true h1.1.2
    subst e1 e2
    exact ⟨rfl, Nat.eq_of_beq_eq_true h1.2⟩
  · cases h1
theorem zk_goto {o : Nat} {pcs : List Nat} {pc len : Nat} {r : Instr} {u : Int} (h : zck o pcs pc len r (.goto u) = true) : ∃ f, r = .goto f ∧ ztg pcs pc f u = true ∧ len = 3 := by
  have h1 : zckj pcs pc len r (.goto u) = true := h
  delta zckj at h1
  dsimp only at h1
  split at h1
  · rw [Bool.and_eq_true] at h1
    exact ⟨_, rfl, h1.1, Nat.eq_of_beq_eq_true h1.2⟩
  · cases h1
theorem zk_ifnull {o : Nat} {pcs : List Nat} {pc len : Nat} {r : Instr} {u : Int} (h : zck o pcs pc len r (.ifnull u) = true) : ∃ f, r = .ifnull f ∧ ztg pcs pc f u = true ∧ len = 3 := by
  have h1 : zckj pcs pc len r (.ifnull u) = true := h
  delta zckj at h1
  dsimp only at h1
  split at h1
  · rw [Bool.and_eq_true] at h1
    exact ⟨_, rfl, h1.1, Nat.eq_of_beq_eq_true h1.2⟩
  · cases h1
theorem zk_if_icmp {o : Nat} {pcs : List Nat} {pc len : Nat} {r : Instr} {g : ClassFile.Cond} {u : Int} (h : zck o pcs pc len r (.if_icmp g u) = true) : ∃ f, r = .if_icmp g f ∧ ztg pcs pc f u = true ∧ len = 3 := by
  have h1 : zckj pcs pc len r (.if_icmp g u) = true := h
  delta zckj at h1
  dsimp only at h1
  split at h1
  · rw [Bool.and_eq_true, Bool.and_eq_true] at h1
    have e1 := of_decide_eq_true h1.1.1
    subst e1
    exact ⟨_, rfl, h1.1.2, Nat.eq_of_beq_eq_true h1.2⟩
  · cases h1
theorem zk_ifCond {o : Nat} {pcs : List Nat} {pc len : Nat} {r : Instr} {g : ClassFile.Cond} {u : Int} (h : zck o pcs pc len r (.ifCond g u) = true) : ∃ f, r = .ifCond g f ∧ ztg pcs pc f u = true ∧ len = 3 := by
  have h1 : zckj pcs pc len r (.ifCond g u) = true := h
  delta zckj at h1
  dsimp only at h1
  split at h1
  · rw [Bool.and_eq_true, Bool.and_eq_true] at h1
    have e1 := of_decide_eq_true h1.1.1
    subst e1
    exact ⟨_, rfl, h1.1.2, Nat.eq_of_beq_eq_true h1.2⟩
  · cases h1
theorem zk_if_acmp {o : Nat} {pcs : List Nat} {pc len : Nat} {r : Instr} {g : _} {u : Int} (h : zck o pcs pc len r (.if_acmp g u) = true) : ∃ f, r = .if_acmp g f ∧ ztg pcs pc f u = true ∧ len = 3 := by
  have h1 : zckj pcs pc len r (.if_acmp g u) = true := h
  delta zckj at h1
  dsimp only at h1
  split at h1
  · rw [Bool.and_eq_true, Bool.and_eq_true] at h1
    have e1 := of_decide_eq_true h1.1.1
    subst e1
    exact ⟨_, rfl, h1.1.2, Nat.eq_of_beq_eq_true h1.2⟩
  · cases h1
theorem zk_tableswitch {o : Nat} {pcs : List Nat} {pc len : Nat} {r : Instr} {u lo hi : Int} {q : Array Int} (h : zck o pcs pc len r (.tableswitch u lo hi q) = true) : ∃ f q2, r = .tableswitch f lo hi q2 ∧ hi - lo + 1 = (q2.toList.length : Int) ∧ ztg pcs pc f u = true ∧ ztgs pcs pc q2.toList q.toList = true := by
  have h1 : zckj pcs pc len r (.tableswitch u lo hi q) = true := h
  delta zckj at h1
  dsimp only at h1
  split at h1
  · simp only [Bool.and_eq_true] at h1
    obtain ⟨⟨⟨⟨e1, e2⟩, e3⟩, e4⟩, e5⟩ := h1
    have e1 := of_decide_eq_true e1
    have e2 := of_decide_eq_true e2
    subst e1 e2
    exact ⟨_, _, rfl, of_decide_eq_true e3, e4, e5⟩
  · cases h1
theorem zk_lookupswitch {o : Nat} {pcs : List Nat} {pc len : Nat} {r : Instr} {u : Int} {q : Array (Int × Int)} (h : zck o pcs pc len r (.lookupswitch u q) = true) : ∃ f q2, r = .lookupswitch f q2 ∧ (q2.toList.zip (q2.toList.drop 1)).all (fun (a, next) => a.1 < next.1) = true ∧ ztg pcs pc f u = true ∧ ztgp pcs pc q2.toList q.toList = true := by
  have h1 : zckj pcs pc len r (.lookupswitch u q) = true := h
  delta zckj at h1
  dsimp only at h1
  split at h1
  · rw [Bool.and_eq_true, Bool.and_eq_true] at h1
    exact ⟨_, _, rfl, h1.1.1, h1.1.2, h1.2⟩
  · cases h1
/-! ## the step -/
section ZP
variable {p : Program} {l : Launch} {e : Env} {R : Room} {s : State} {m : MethodId} {args : Array Value} {below : List Frame} {meth : Method} {c : Code} {Q : State → Prop} {K : zCx} {ph : Bool} {j d : Nat} {ad0 : Nat → Nat} {n0 c0 s0 : Nat}
variable {is : zL} {ls st : List zV} {σ : zS} {ad : Nat → Nat} {H : Heap} {locs : List Loc} {lm : Array Slot} {sm : List Value} {pc t len : Nat} {r : Instr} {A : zA}
theorem zp_iadd  (hz : zst (zqq K ph) (zmc j) (.iadd :: is) ls st σ = some A) (hck : zck (zmo j) (zpc j) pc len r (.iadd) = true) (hd : decode (zmb j) pc = .ok (r, len)) (C : zAct p l R s m args meth c K j d) (hag : zag ad0 ad n0) (hi : is = zdrop (zmc j).1 (t + 1)) (hpc : is = [] ∨ (zpc j)[t + 1]? = some (pc + len)) (hP : zPic K ph ad σ H) (hS : va_S K.A s.heap H locs) (hL : zLoc K ad σ.2.2.2.2.1 lm (zml j) ls) (hR : zRels K ad σ.2.2.2.2.1 st sm) (hn : n0 ≤ σ.2.2.2.2.1) (hc : c0 ≤ σ.2.2.1) (hs : s0 ≤ σ.2.2.2.1)
    (GA : zGoA p l e R s m args below meth c Q K ph j ad0 n0 c0 s0 A) : W p l e R s m args below meth c H locs (σ.2.2.1 - c0) (σ.2.2.2.1 - s0) Q (F0 m pc lm sm) := by
  obtain ⟨rfl, rfl⟩ := zk_iadd hck
  have hz1 : zstI (zmc j) .iadd is ls st σ = some A := hz
  delta zstI at hz1
  dsimp only at hz1
  split at hz1
  · cases hz1
    exact zs_iadd hd C hag hi hpc hP hS hL hR hn hc hs GA.2.2
  · cases hz1
theorem zp_isub  (hz : zst (zqq K ph) (zmc j) (.isub :: is) ls st σ = some A) (hck : zck (zmo j) (zpc j) pc len r (.isub) = true) (hd : decode (zmb j) pc = .ok (r, len)) (C : zAct p l R s m args meth c K j d) (hag : zag ad0 ad n0) (hi : is = zdrop (zmc j).1 (t + 1)) (hpc : is = [] ∨ (zpc j)[t + 1]? = some (pc + len)) (hP : zPic K ph ad σ H) (hS : va_S K.A s.heap H locs) (hL : zLoc K ad σ.2.2.2.2.1 lm (zml j) ls) (hR : zRels K ad σ.2.2.2.2.1 st sm) (hn : n0 ≤ σ.2.2.2.2.1) (hc : c0 ≤ σ.2.2.1) (hs : s0 ≤ σ.2.2.2.1)
    (GA : zGoA p l e R s m args below meth c Q K ph j ad0 n0 c0 s0 A) : W p l e R s m args below meth c H locs (σ.2.2.1 - c0) (σ.2.2.2.1 - s0) Q (F0 m pc lm sm) := by
  obtain ⟨rfl, rfl⟩ := zk_isub hck
  have hz1 : zstI (zmc j) .isub is ls st σ = some A := hz
  delta zstI at hz1
  dsimp only at hz1
  split at hz1
  · cases hz1
    exact zs_isub hd C hag hi hpc hP hS hL hR hn hc hs GA.2.2
  · cases hz1
theorem zp_imul  (hz : zst (zqq K ph) (zmc j) (.imul :: is) ls st σ = some A) (hck : zck (zmo j) (zpc j) pc len r (.imul) = true) (hd : decode (zmb j) pc = .ok (r, len)) (C : zAct p l R s m args meth c K j d) (hag : zag ad0 ad n0) (hi : is = zdrop (zmc j).1 (t + 1)) (hpc : is = [] ∨ (zpc j)[t + 1]? = some (pc + len)) (hP : zPic K ph ad σ H) (hS : va_S K.A s.heap H locs) (hL : zLoc K ad σ.2.2.2.2.1 lm (zml j) ls) (hR : zRels K ad σ.2.2.2.2.1 st sm) (hn : n0 ≤ σ.2.2.2.2.1) (hc : c0 ≤ σ.2.2.1) (hs : s0 ≤ σ.2.2.2.1)
    (GA : zGoA p l e R s m args below meth c Q K ph j ad0 n0 c0 s0 A) : W p l e R s m args below meth c H locs (σ.2.2.1 - c0) (σ.2.2.2.1 - s0) Q (F0 m pc lm sm) := by
  obtain ⟨rfl, rfl⟩ := zk_imul hck
  have hz1 : zstI (zmc j) .imul is ls st σ = some A := hz
  delta zstI at hz1
  dsimp only at hz1
  split at hz1
  · cases hz1
    exact zs_imul hd C hag hi hpc hP hS hL hR hn hc hs GA.2.2
  · cases hz1
theorem zp_ineg  (hz : zst (zqq K ph) (zmc j) (.ineg :: is) ls st σ = some A) (hck : zck (zmo j) (zpc j) pc len r (.ineg) = true) (hd : decode (zmb j) pc = .ok (r, len)) (C : zAct p l R s m args meth c K j d) (hag : zag ad0 ad n0) (hi : is = zdrop (zmc j).1 (t + 1)) (hpc : is = [] ∨ (zpc j)[t + 1]? = some (pc + len)) (hP : zPic K ph ad σ H) (hS : va_S K.A s.heap H locs) (hL : zLoc K ad σ.2.2.2.2.1 lm (zml j) ls) (hR : zRels K ad σ.2.2.2.2.1 st sm) (hn : n0 ≤ σ.2.2.2.2.1) (hc : c0 ≤ σ.2.2.1) (hs : s0 ≤ σ.2.2.2.1)
    (GA : zGoA p l e R s m args below meth c Q K ph j ad0 n0 c0 s0 A) : W p l e R s m args below meth c H locs (σ.2.2.1 - c0) (σ.2.2.2.1 - s0) Q (F0 m pc lm sm) := by
  obtain ⟨rfl, rfl⟩ := zk_ineg hck
  have hz1 : zstI (zmc j) .ineg is ls st σ = some A := hz
  delta zstI at hz1
  dsimp only at hz1
  split at hz1
  · cases hz1
    exact zs_ineg hd C hag hi hpc hP hS hL hR hn hc hs GA.2.2
  · cases hz1
theorem zp_iand  (hz : zst (zqq K ph) (zmc j) (.iand :: is) ls st σ = some A) (hck : zck (zmo j) (zpc j) pc len r (.iand) = true) (hd : decode (zmb j) pc = .ok (r, len)) (C : zAct p l R s m args meth c K j d) (hag : zag ad0 ad n0) (hi : is = zdrop (zmc j).1 (t + 1)) (hpc : is = [] ∨ (zpc j)[t + 1]? = some (pc + len)) (hP : zPic K ph ad σ H) (hS : va_S K.A s.heap H locs) (hL : zLoc K ad σ.2.2.2.2.1 lm (zml j) ls) (hR : zRels K ad σ.2.2.2.2.1 st sm) (hn : n0 ≤ σ.2.2.2.2.1) (hc : c0 ≤ σ.2.2.1) (hs : s0 ≤ σ.2.2.2.1)
    (GA : zGoA p l e R s m args below meth c Q K ph j ad0 n0 c0 s0 A) : W p l e R s m args below meth c H locs (σ.2.2.1 - c0) (σ.2.2.2.1 - s0) Q (F0 m pc lm sm) := by
  obtain ⟨rfl, rfl⟩ := zk_iand hck
  have hz1 : zstI (zmc j) .iand is ls st σ = some A := hz
  delta zstI at hz1
  dsimp only at hz1
  split at hz1
  · cases hz1
    exact zs_iand hd C hag hi hpc hP hS hL hR hn hc hs GA.2.2
  · cases hz1
theorem zp_ior  (hz : zst (zqq K ph) (zmc j) (.ior :: is) ls st σ = some A) (hck : zck (zmo j) (zpc j) pc len r (.ior) = true) (hd : decode (zmb j) pc = .ok (r, len)) (C : zAct p l R s m args meth c K j d) (hag : zag ad0 ad n0) (hi : is = zdrop (zmc j).1 (t + 1)) (hpc : is = [] ∨ (zpc j)[t + 1]? = some (pc + len)) (hP : zPic K ph ad σ H) (hS : va_S K.A s.heap H locs) (hL : zLoc K ad σ.2.2.2.2.1 lm (zml j) ls) (hR : zRels K ad σ.2.2.2.2.1 st sm) (hn : n0 ≤ σ.2.2.2.2.1) (hc : c0 ≤ σ.2.2.1) (hs : s0 ≤ σ.2.2.2.1)
    (GA : zGoA p l e R s m args below meth c Q K ph j ad0 n0 c0 s0 A) : W p l e R s m args below meth c H locs (σ.2.2.1 - c0) (σ.2.2.2.1 - s0) Q (F0 m pc lm sm) := by
  obtain ⟨rfl, rfl⟩ := zk_ior hck
  have hz1 : zstI (zmc j) .ior is ls st σ = some A := hz
  delta zstI at hz1
  dsimp only at hz1
  split at hz1
  · cases hz1
    exact zs_ior hd C hag hi hpc hP hS hL hR hn hc hs GA.2.2
  · cases hz1
theorem zp_ixor  (hz : zst (zqq K ph) (zmc j) (.ixor :: is) ls st σ = some A) (hck : zck (zmo j) (zpc j) pc len r (.ixor) = true) (hd : decode (zmb j) pc = .ok (r, len)) (C : zAct p l R s m args meth c K j d) (hag : zag ad0 ad n0) (hi : is = zdrop (zmc j).1 (t + 1)) (hpc : is = [] ∨ (zpc j)[t + 1]? = some (pc + len)) (hP : zPic K ph ad σ H) (hS : va_S K.A s.heap H locs) (hL : zLoc K ad σ.2.2.2.2.1 lm (zml j) ls) (hR : zRels K ad σ.2.2.2.2.1 st sm) (hn : n0 ≤ σ.2.2.2.2.1) (hc : c0 ≤ σ.2.2.1) (hs : s0 ≤ σ.2.2.2.1)
    (GA : zGoA p l e R s m args below meth c Q K ph j ad0 n0 c0 s0 A) : W p l e R s m args below meth c H locs (σ.2.2.1 - c0) (σ.2.2.2.1 - s0) Q (F0 m pc lm sm) := by
  obtain ⟨rfl, rfl⟩ := zk_ixor hck
  have hz1 : zstI (zmc j) .ixor is ls st σ = some A := hz
  delta zstI at hz1
  dsimp only at hz1
  split at hz1
  · cases hz1
    exact zs_ixor hd C hag hi hpc hP hS hL hR hn hc hs GA.2.2
  · cases hz1
theorem zp_ishl  (hz : zst (zqq K ph) (zmc j) (.ishl :: is) ls st σ = some A) (hck : zck (zmo j) (zpc j) pc len r (.ishl) = true) (hd : decode (zmb j) pc = .ok (r, len)) (C : zAct p l R s m args meth c K j d) (hag : zag ad0 ad n0) (hi : is = zdrop (zmc j).1 (t + 1)) (hpc : is = [] ∨ (zpc j)[t + 1]? = some (pc + len)) (hP : zPic K ph ad σ H) (hS : va_S K.A s.heap H locs) (hL : zLoc K ad σ.2.2.2.2.1 lm (zml j) ls) (hR : zRels K ad σ.2.2.2.2.1 st sm) (hn : n0 ≤ σ.2.2.2.2.1) (hc : c0 ≤ σ.2.2.1) (hs : s0 ≤ σ.2.2.2.1)
    (GA : zGoA p l e R s m args below meth c Q K ph j ad0 n0 c0 s0 A) : W p l e R s m args below meth c H locs (σ.2.2.1 - c0) (σ.2.2.2.1 - s0) Q (F0 m pc lm sm) := by
  obtain ⟨rfl, rfl⟩ := zk_ishl hck
  have hz1 : zstI (zmc j) .ishl is ls st σ = some A := hz
  delta zstI at hz1
  dsimp only at hz1
  split at hz1
  · cases hz1
    exact zs_ishl hd C hag hi hpc hP hS hL hR hn hc hs GA.2.2
  · cases hz1
theorem zp_ishr  (hz : zst (zqq K ph) (zmc j) (.ishr :: is) ls st σ = some A) (hck : zck (zmo j) (zpc j) pc len r (.ishr) = true) (hd : decode (zmb j) pc = .ok (r, len)) (C : zAct p l R s m args meth c K j d) (hag : zag ad0 ad n0) (hi : is = zdrop (zmc j).1 (t + 1)) (hpc : is = [] ∨ (zpc j)[t + 1]? = some (pc + len)) (hP : zPic K ph ad σ H) (hS : va_S K.A s.heap H locs) (hL : zLoc K ad σ.2.2.2.2.1 lm (zml j) ls) (hR : zRels K ad σ.2.2.2.2.1 st sm) (hn : n0 ≤ σ.2.2.2.2.1) (hc : c0 ≤ σ.2.2.1) (hs : s0 ≤ σ.2.2.2.1)
    (GA : zGoA p l e R s m args below meth c Q K ph j ad0 n0 c0 s0 A) : W p l e R s m args below meth c H locs (σ.2.2.1 - c0) (σ.2.2.2.1 - s0) Q (F0 m pc lm sm) := by
  obtain ⟨rfl, rfl⟩ := zk_ishr hck
  have hz1 : zstI (zmc j) .ishr is ls st σ = some A := hz
  delta zstI at hz1
  dsimp only at hz1
  split at hz1
  · cases hz1
    exact zs_ishr hd C hag hi hpc hP hS hL hR hn hc hs GA.2.2
  · cases hz1
theorem zp_iushr  (hz : zst (zqq K ph) (zmc j) (.iushr :: is) ls st σ = some A) (hck : zck (zmo j) (zpc j) pc len r (.iushr) = true) (hd : decode (zmb j) pc = .ok (r, len)) (C : zAct p l R s m args meth c K j d) (hag : zag ad0 ad n0) (hi : is = zdrop (zmc j).1 (t + 1)) (hpc : is = [] ∨ (zpc j)[t + 1]? = some (pc + len)) (hP : zPic K ph ad σ H) (hS : va_S K.A s.heap H locs) (hL : zLoc K ad σ.2.2.2.2.1 lm (zml j) ls) (hR : zRels K ad σ.2.2.2.2.1 st sm) (hn : n0 ≤ σ.2.2.2.2.1) (hc : c0 ≤ σ.2.2.1) (hs : s0 ≤ σ.2.2.2.1)
    (GA : zGoA p l e R s m args below meth c Q K ph j ad0 n0 c0 s0 A) : W p l e R s m args below meth c H locs (σ.2.2.1 - c0) (σ.2.2.2.1 - s0) Q (F0 m pc lm sm) := by
  obtain ⟨rfl, rfl⟩ := zk_iushr hck
  have hz1 : zstI (zmc j) .iushr is ls st σ = some A := hz
  delta zstI at hz1
  dsimp only at hz1
  split at hz1
  · cases hz1
    exact zs_iushr hd C hag hi hpc hP hS hL hR hn hc hs GA.2.2
  · cases hz1
theorem zp_i2c  (hz : zst (zqq K ph) (zmc j) (.i2c :: is) ls st σ = some A) (hck : zck (zmo j) (zpc j) pc len r (.i2c) = true) (hd : decode (zmb j) pc = .ok (r, len)) (C : zAct p l R s m args meth c K j d) (hag : zag ad0 ad n0) (hi : is = zdrop (zmc j).1 (t + 1)) (hpc : is = [] ∨ (zpc j)[t + 1]? = some (pc + len)) (hP : zPic K ph ad σ H) (hS : va_S K.A s.heap H locs) (hL : zLoc K ad σ.2.2.2.2.1 lm (zml j) ls) (hR : zRels K ad σ.2.2.2.2.1 st sm) (hn : n0 ≤ σ.2.2.2.2.1) (hc : c0 ≤ σ.2.2.1) (hs : s0 ≤ σ.2.2.2.1)
    (GA : zGoA p l e R s m args below meth c Q K ph j ad0 n0 c0 s0 A) : W p l e R s m args below meth c H locs (σ.2.2.1 - c0) (σ.2.2.2.1 - s0) Q (F0 m pc lm sm) := by
  obtain ⟨rfl, rfl⟩ := zk_i2c hck
  have hz1 : zstI (zmc j) .i2c is ls st σ = some A := hz
  delta zstI at hz1
  dsimp only at hz1
  split at hz1
  · cases hz1
    exact zs_i2c hd C hag hi hpc hP hS hL hR hn hc hs GA.2.2
  · cases hz1
theorem zp_i2l  (hz : zst (zqq K ph) (zmc j) (.i2l :: is) ls st σ = some A) (hck : zck (zmo j) (zpc j) pc len r (.i2l) = true) (hd : decode (zmb j) pc = .ok (r, len)) (C : zAct p l R s m args meth c K j d) (hag : zag ad0 ad n0) (hi : is = zdrop (zmc j).1 (t + 1)) (hpc : is = [] ∨ (zpc j)[t + 1]? = some (pc + len)) (hP : zPic K ph ad σ H) (hS : va_S K.A s.heap H locs) (hL : zLoc K ad σ.2.2.2.2.1 lm (zml j) ls) (hR : zRels K ad σ.2.2.2.2.1 st sm) (hn : n0 ≤ σ.2.2.2.2.1) (hc : c0 ≤ σ.2.2.1) (hs : s0 ≤ σ.2.2.2.1)
    (GA : zGoA p l e R s m args below meth c Q K ph j ad0 n0 c0 s0 A) : W p l e R s m args below meth c H locs (σ.2.2.1 - c0) (σ.2.2.2.1 - s0) Q (F0 m pc lm sm) := by
  obtain ⟨rfl, rfl⟩ := zk_i2l hck
  have hz1 : zstI (zmc j) .i2l is ls st σ = some A := hz
  delta zstI at hz1
  dsimp only at hz1
  split at hz1
  · cases hz1
    exact zs_i2l hd C hag hi hpc hP hS hL hR hn hc hs GA.2.2
  · cases hz1
theorem zp_l2i  (hz : zst (zqq K ph) (zmc j) (.l2i :: is) ls st σ = some A) (hck : zck (zmo j) (zpc j) pc len r (.l2i) = true) (hd : decode (zmb j) pc = .ok (r, len)) (C : zAct p l R s m args meth c K j d) (hag : zag ad0 ad n0) (hi : is = zdrop (zmc j).1 (t + 1)) (hpc : is = [] ∨ (zpc j)[t + 1]? = some (pc + len)) (hP : zPic K ph ad σ H) (hS : va_S K.A s.heap H locs) (hL : zLoc K ad σ.2.2.2.2.1 lm (zml j) ls) (hR : zRels K ad σ.2.2.2.2.1 st sm) (hn : n0 ≤ σ.2.2.2.2.1) (hc : c0 ≤ σ.2.2.1) (hs : s0 ≤ σ.2.2.2.1)
    (GA : zGoA p l e R s m args below meth c Q K ph j ad0 n0 c0 s0 A) : W p l e R s m args below meth c H locs (σ.2.2.1 - c0) (σ.2.2.2.1 - s0) Q (F0 m pc lm sm) := by
  obtain ⟨rfl, rfl⟩ := zk_l2i hck
  have hz1 : zstI (zmc j) .l2i is ls st σ = some A := hz
  delta zstI at hz1
  dsimp only at hz1
  split at hz1
  · cases hz1
    exact zs_l2i hd C hag hi hpc hP hS hL hR hn hc hs GA.2.2
  · cases hz1
theorem zp_ladd  (hz : zst (zqq K ph) (zmc j) (.ladd :: is) ls st σ = some A) (hck : zck (zmo j) (zpc j) pc len r (.ladd) = true) (hd : decode (zmb j) pc = .ok (r, len)) (C : zAct p l R s m args meth c K j d) (hag : zag ad0 ad n0) (hi : is = zdrop (zmc j).1 (t + 1)) (hpc : is = [] ∨ (zpc j)[t + 1]? = some (pc + len)) (hP : zPic K ph ad σ H) (hS : va_S K.A s.heap H locs) (hL : zLoc K ad σ.2.2.2.2.1 lm (zml j) ls) (hR : zRels K ad σ.2.2.2.2.1 st sm) (hn : n0 ≤ σ.2.2.2.2.1) (hc : c0 ≤ σ.2.2.1) (hs : s0 ≤ σ.2.2.2.1)
    (GA : zGoA p l e R s m args below meth c Q K ph j ad0 n0 c0 s0 A) : W p l e R s m args below meth c H locs (σ.2.2.1 - c0) (σ.2.2.2.1 - s0) Q (F0 m pc lm sm) := by
  obtain ⟨rfl, rfl⟩ := zk_ladd hck
  have hz1 : zstI (zmc j) .ladd is ls st σ = some A := hz
  delta zstI at hz1
  dsimp only at hz1
  split at hz1
  · cases hz1
    exact zs_ladd hd C hag hi hpc hP hS hL hR hn hc hs GA.2.2
  · cases hz1
theorem zp_lmul  (hz : zst (zqq K ph) (zmc j) (.lmul :: is) ls st σ = some A) (hck : zck (zmo j) (zpc j) pc len r (.lmul) = true) (hd : decode (zmb j) pc = .ok (r, len)) (C : zAct p l R s m args meth c K j d) (hag : zag ad0 ad n0) (hi : is = zdrop (zmc j).1 (t + 1)) (hpc : is = [] ∨ (zpc j)[t + 1]? = some (pc + len)) (hP : zPic K ph ad σ H) (hS : va_S K.A s.heap H locs) (hL : zLoc K ad σ.2.2.2.2.1 lm (zml j) ls) (hR : zRels K ad σ.2.2.2.2.1 st sm) (hn : n0 ≤ σ.2.2.2.2.1) (hc : c0 ≤ σ.2.2.1) (hs : s0 ≤ σ.2.2.2.1)
    (GA : zGoA p l e R s m args below meth c Q K ph j ad0 n0 c0 s0 A) : W p l e R s m args below meth c H locs (σ.2.2.1 - c0) (σ.2.2.2.1 - s0) Q (F0 m pc lm sm) := by
  obtain ⟨rfl, rfl⟩ := zk_lmul hck
  have hz1 : zstI (zmc j) .lmul is ls st σ = some A := hz
  delta zstI at hz1
  dsimp only at hz1
  split at hz1
  · cases hz1
    exact zs_lmul hd C hag hi hpc hP hS hL hR hn hc hs GA.2.2
  · cases hz1
theorem zp_lcmp  (hz : zst (zqq K ph) (zmc j) (.lcmp :: is) ls st σ = some A) (hck : zck (zmo j) (zpc j) pc len r (.lcmp) = true) (hd : decode (zmb j) pc = .ok (r, len)) (C : zAct p l R s m args meth c K j d) (hag : zag ad0 ad n0) (hi : is = zdrop (zmc j).1 (t + 1)) (hpc : is = [] ∨ (zpc j)[t + 1]? = some (pc + len)) (hP : zPic K ph ad σ H) (hS : va_S K.A s.heap H locs) (hL : zLoc K ad σ.2.2.2.2.1 lm (zml j) ls) (hR : zRels K ad σ.2.2.2.2.1 st sm) (hn : n0 ≤ σ.2.2.2.2.1) (hc : c0 ≤ σ.2.2.1) (hs : s0 ≤ σ.2.2.2.1)
    (GA : zGoA p l e R s m args below meth c Q K ph j ad0 n0 c0 s0 A) : W p l e R s m args below meth c H locs (σ.2.2.1 - c0) (σ.2.2.2.1 - s0) Q (F0 m pc lm sm) := by
  obtain ⟨rfl, rfl⟩ := zk_lcmp hck
  have hz1 : zstI (zmc j) .lcmp is ls st σ = some A := hz
  delta zstI at hz1
  dsimp only at hz1
  split at hz1
  · cases hz1
    exact zs_lcmp hd C hag hi hpc hP hS hL hR hn hc hs GA.2.2
  · cases hz1
theorem zp_dup2  (hz : zst (zqq K ph) (zmc j) (.dup2 :: is) ls st σ = some A) (hck : zck (zmo j) (zpc j) pc len r (.dup2) = true) (hd : decode (zmb j) pc = .ok (r, len)) (C : zAct p l R s m args meth c K j d) (hag : zag ad0 ad n0) (hi : is = zdrop (zmc j).1 (t + 1)) (hpc : is = [] ∨ (zpc j)[t + 1]? = some (pc + len)) (hP : zPic K ph ad σ H) (hS : va_S K.A s.heap H locs) (hL : zLoc K ad σ.2.2.2.2.1 lm (zml j) ls) (hR : zRels K ad σ.2.2.2.2.1 st sm) (hn : n0 ≤ σ.2.2.2.2.1) (hc : c0 ≤ σ.2.2.1) (hs : s0 ≤ σ.2.2.2.1)
    (GA : zGoA p l e R s m args below meth c Q K ph j ad0 n0 c0 s0 A) : W p l e R s m args below meth c H locs (σ.2.2.1 - c0) (σ.2.2.2.1 - s0) Q (F0 m pc lm sm) := by
  obtain ⟨rfl, rfl⟩ := zk_dup2 hck
  have hz1 : zstI (zmc j) .dup2 is ls st σ = some A := hz
  delta zstI at hz1
  dsimp only at hz1
  split at hz1
  · cases hz1
    exact zs_dup2 hd C hag hi hpc hP hS hL hR hn hc hs GA.2.2
  · cases hz1
theorem zp_idiv  (hz : zst (zqq K ph) (zmc j) (.idiv :: is) ls st σ = some A) (hck : zck (zmo j) (zpc j) pc len r (.idiv) = true) (hd : decode (zmb j) pc = .ok (r, len)) (C : zAct p l R s m args meth c K j d) (hag : zag ad0 ad n0) (hi : is = zdrop (zmc j).1 (t + 1)) (hpc : is = [] ∨ (zpc j)[t + 1]? = some (pc + len)) (hP : zPic K ph ad σ H) (hS : va_S K.A s.heap H locs) (hL : zLoc K ad σ.2.2.2.2.1 lm (zml j) ls) (hR : zRels K ad σ.2.2.2.2.1 st sm) (hn : n0 ≤ σ.2.2.2.2.1) (hc : c0 ≤ σ.2.2.1) (hs : s0 ≤ σ.2.2.2.1)
    (GA : zGoA p l e R s m args below meth c Q K ph j ad0 n0 c0 s0 A) : W p l e R s m args below meth c H locs (σ.2.2.1 - c0) (σ.2.2.2.1 - s0) Q (F0 m pc lm sm) := by
  obtain ⟨rfl, rfl⟩ := zk_idiv hck
  have hz1 : zstI (zmc j) .idiv is ls st σ = some A := hz
  delta zstI at hz1
  dsimp only at hz1
  split at hz1
  · cases hz1
    exact zs_idiv hd GA.1 C hag hi hpc hP hS hL hR hn hc hs GA.2
  · cases hz1
theorem zp_irem  (hz : zst (zqq K ph) (zmc j) (.irem :: is) ls st σ = some A) (hck : zck (zmo j) (zpc j) pc len r (.irem) = true) (hd : decode (zmb j) pc = .ok (r, len)) (C : zAct p l R s m args meth c K j d) (hag : zag ad0 ad n0) (hi : is = zdrop (zmc j).1 (t + 1)) (hpc : is = [] ∨ (zpc j)[t + 1]? = some (pc + len)) (hP : zPic K ph ad σ H) (hS : va_S K.A s.heap H locs) (hL : zLoc K ad σ.2.2.2.2.1 lm (zml j) ls) (hR : zRels K ad σ.2.2.2.2.1 st sm) (hn : n0 ≤ σ.2.2.2.2.1) (hc : c0 ≤ σ.2.2.1) (hs : s0 ≤ σ.2.2.2.1)
    (GA : zGoA p l e R s m args below meth c Q K ph j ad0 n0 c0 s0 A) : W p l e R s m args below meth c H locs (σ.2.2.1 - c0) (σ.2.2.2.1 - s0) Q (F0 m pc lm sm) := by
  obtain ⟨rfl, rfl⟩ := zk_irem hck
  have hz1 : zstI (zmc j) .irem is ls st σ = some A := hz
  delta zstI at hz1
  dsimp only at hz1
  split at hz1
  · cases hz1
    exact zs_irem hd GA.1 C hag hi hpc hP hS hL hR hn hc hs GA.2
  · cases hz1
theorem zp_ldiv  (hz : zst (zqq K ph) (zmc j) (.ldiv :: is) ls st σ = some A) (hck : zck (zmo j) (zpc j) pc len r (.ldiv) = true) (hd : decode (zmb j) pc = .ok (r, len)) (C : zAct p l R s m args meth c K j d) (hag : zag ad0 ad n0) (hi : is = zdrop (zmc j).1 (t + 1)) (hpc : is = [] ∨ (zpc j)[t + 1]? = some (pc + len)) (hP : zPic K ph ad σ H) (hS : va_S K.A s.heap H locs) (hL : zLoc K ad σ.2.2.2.2.1 lm (zml j) ls) (hR : zRels K ad σ.2.2.2.2.1 st sm) (hn : n0 ≤ σ.2.2.2.2.1) (hc : c0 ≤ σ.2.2.1) (hs : s0 ≤ σ.2.2.2.1)
    (GA : zGoA p l e R s m args below meth c Q K ph j ad0 n0 c0 s0 A) : W p l e R s m args below meth c H locs (σ.2.2.1 - c0) (σ.2.2.2.1 - s0) Q (F0 m pc lm sm) := by
  obtain ⟨rfl, rfl⟩ := zk_ldiv hck
  have hz1 : zstI (zmc j) .ldiv is ls st σ = some A := hz
  delta zstI at hz1
  dsimp only at hz1
  split at hz1
  · cases hz1
    exact zs_ldiv hd GA.1 C hag hi hpc hP hS hL hR hn hc hs GA.2
  · cases hz1
theorem zp_dup  (hz : zst (zqq K ph) (zmc j) (.dup :: is) ls st σ = some A) (hck : zck (zmo j) (zpc j) pc len r (.dup) = true) (hd : decode (zmb j) pc = .ok (r, len)) (C : zAct p l R s m args meth c K j d) (hag : zag ad0 ad n0) (hi : is = zdrop (zmc j).1 (t + 1)) (hpc : is = [] ∨ (zpc j)[t + 1]? = some (pc + len)) (hP : zPic K ph ad σ H) (hS : va_S K.A s.heap H locs) (hL : zLoc K ad σ.2.2.2.2.1 lm (zml j) ls) (hR : zRels K ad σ.2.2.2.2.1 st sm) (hn : n0 ≤ σ.2.2.2.2.1) (hc : c0 ≤ σ.2.2.1) (hs : s0 ≤ σ.2.2.2.1)
    (GA : zGoA p l e R s m args below meth c Q K ph j ad0 n0 c0 s0 A) : W p l e R s m args below meth c H locs (σ.2.2.1 - c0) (σ.2.2.2.1 - s0) Q (F0 m pc lm sm) := by
  obtain ⟨rfl, rfl⟩ := zk_dup hck
  have hz1 : zstI (zmc j) .dup is ls st σ = some A := hz
  delta zstI at hz1
  dsimp only at hz1
  cases st with
  | nil => cases hz1
  | cons v st =>
    obtain ⟨k, x, a⟩ := v
    by_cases hk : k = 1
    · subst hk
      cases hz1
    · have hz2 : zgo is ls ((k, x, a) :: (k, x, a) :: st) σ = some A := by
        cases k with
        | zero => exact hz1
        | succ k =>
          cases k with
          | zero => exact absurd rfl hk
          | succ k => exact hz1
      cases hz2
      exact zs_dup hd hk C hag hi hpc hP hS hL hR hn hc hs GA.2.2
theorem zp_pop  (hz : zst (zqq K ph) (zmc j) (.pop :: is) ls st σ = some A) (hck : zck (zmo j) (zpc j) pc len r (.pop) = true) (hd : decode (zmb j) pc = .ok (r, len)) (C : zAct p l R s m args meth c K j d) (hag : zag ad0 ad n0) (hi : is = zdrop (zmc j).1 (t + 1)) (hpc : is = [] ∨ (zpc j)[t + 1]? = some (pc + len)) (hP : zPic K ph ad σ H) (hS : va_S K.A s.heap H locs) (hL : zLoc K ad σ.2.2.2.2.1 lm (zml j) ls) (hR : zRels K ad σ.2.2.2.2.1 st sm) (hn : n0 ≤ σ.2.2.2.2.1) (hc : c0 ≤ σ.2.2.1) (hs : s0 ≤ σ.2.2.2.1)
    (GA : zGoA p l e R s m args below meth c Q K ph j ad0 n0 c0 s0 A) : W p l e R s m args below meth c H locs (σ.2.2.1 - c0) (σ.2.2.2.1 - s0) Q (F0 m pc lm sm) := by
  obtain ⟨rfl, rfl⟩ := zk_pop hck
  have hz1 : zstI (zmc j) .pop is ls st σ = some A := hz
  delta zstI at hz1
  dsimp only at hz1
  cases st with
  | nil => cases hz1
  | cons v st =>
    obtain ⟨k, x, a⟩ := v
    by_cases hk : k = 1
    · subst hk
      cases hz1
    · have hz2 : zgo is ls (st) σ = some A := by
        cases k with
        | zero => exact hz1
        | succ k =>
          cases k with
          | zero => exact absurd rfl hk
          | succ k => exact hz1
      cases hz2
      exact zs_pop hd hk C hag hi hpc hP hS hL hR hn hc hs GA.2.2
theorem zp_if_icmp {g : ClassFile.Cond} {u : Int} (hz : zst (zqq K ph) (zmc j) (.if_icmp g u :: is) ls st σ = some A) (hck : zck (zmo j) (zpc j) pc len r (.if_icmp g u) = true) (hd : decode (zmb j) pc = .ok (r, len)) (C : zAct p l R s m args meth c K j d) (hag : zag ad0 ad n0) (hi : is = zdrop (zmc j).1 (t + 1)) (hpc : is = [] ∨ (zpc j)[t + 1]? = some (pc + len)) (hP : zPic K ph ad σ H) (hS : va_S K.A s.heap H locs) (hL : zLoc K ad σ.2.2.2.2.1 lm (zml j) ls) (hR : zRels K ad σ.2.2.2.2.1 st sm) (hn : n0 ≤ σ.2.2.2.2.1) (hc : c0 ≤ σ.2.2.1) (hs : s0 ≤ σ.2.2.2.1)
    (GA : zGoA p l e R s m args below meth c Q K ph j ad0 n0 c0 s0 A) : W p l e R s m args below meth c H locs (σ.2.2.1 - c0) (σ.2.2.2.1 - s0) Q (F0 m pc lm sm) := by
  obtain ⟨f, rfl, hj, rfl⟩ := zk_if_icmp hck
  have hz1 : zstI (zmc j) (.if_icmp g u) is ls st σ = some A := hz
  delta zstI at hz1
  dsimp only at hz1
  split at hz1
  · cases hz1
    cases g
    case eq => exact zs_icmp_eq hd hj hi hpc C hag hP hS hL hR hn hc hs GA.1 GA.2
    case ne => exact zs_icmp_ne hd hj hi hpc C hag hP hS hL hR hn hc hs GA.1 GA.2
    case lt => exact zs_icmp_lt hd hj hi hpc C hag hP hS hL hR hn hc hs GA.1 GA.2
    case ge => exact zs_icmp_ge hd hj hi hpc C hag hP hS hL hR hn hc hs GA.1 GA.2
    case gt => exact zs_icmp_gt hd hj hi hpc C hag hP hS hL hR hn hc hs GA.1 GA.2
    case le => exact zs_icmp_le hd hj hi hpc C hag hP hS hL hR hn hc hs GA.1 GA.2
  · cases hz1
theorem zp_ifCond {g : ClassFile.Cond} {u : Int} (hz : zst (zqq K ph) (zmc j) (.ifCond g u :: is) ls st σ = some A) (hck : zck (zmo j) (zpc j) pc len r (.ifCond g u) = true) (hd : decode (zmb j) pc = .ok (r, len)) (C : zAct p l R s m args meth c K j d) (hag : zag ad0 ad n0) (hi : is = zdrop (zmc j).1 (t + 1)) (hpc : is = [] ∨ (zpc j)[t + 1]? = some (pc + len)) (hP : zPic K ph ad σ H) (hS : va_S K.A s.heap H locs) (hL : zLoc K ad σ.2.2.2.2.1 lm (zml j) ls) (hR : zRels K ad σ.2.2.2.2.1 st sm) (hn : n0 ≤ σ.2.2.2.2.1) (hc : c0 ≤ σ.2.2.1) (hs : s0 ≤ σ.2.2.2.1)
    (GA : zGoA p l e R s m args below meth c Q K ph j ad0 n0 c0 s0 A) : W p l e R s m args below meth c H locs (σ.2.2.1 - c0) (σ.2.2.2.1 - s0) Q (F0 m pc lm sm) := by
  obtain ⟨f, rfl, hj, rfl⟩ := zk_ifCond hck
  have hz1 : zstI (zmc j) (.ifCond g u) is ls st σ = some A := hz
  delta zstI at hz1
  dsimp only at hz1
  split at hz1
  · cases hz1
    cases g
    case eq => exact zs_if_eq hd hj hi hpc C hag hP hS hL hR hn hc hs GA.1 GA.2
    case ne => exact zs_if_ne hd hj hi hpc C hag hP hS hL hR hn hc hs GA.1 GA.2
    case lt => exact zs_if_lt hd hj hi hpc C hag hP hS hL hR hn hc hs GA.1 GA.2
    case ge => exact zs_if_ge hd hj hi hpc C hag hP hS hL hR hn hc hs GA.1 GA.2
    case gt => exact zs_if_gt hd hj hi hpc C hag hP hS hL hR hn hc hs GA.1 GA.2
    case le => exact zs_if_le hd hj hi hpc C hag hP hS hL hR hn hc hs GA.1 GA.2
  · cases hz1
theorem zp_if_acmp {g : _} {u : Int} (hz : zst (zqq K ph) (zmc j) (.if_acmp g u :: is) ls st σ = some A) (hck : zck (zmo j) (zpc j) pc len r (.if_acmp g u) = true) (hd : decode (zmb j) pc = .ok (r, len)) (C : zAct p l R s m args meth c K j d) (hag : zag ad0 ad n0) (hi : is = zdrop (zmc j).1 (t + 1)) (hpc : is = [] ∨ (zpc j)[t + 1]? = some (pc + len)) (hP : zPic K ph ad σ H) (hS : va_S K.A s.heap H locs) (hL : zLoc K ad σ.2.2.2.2.1 lm (zml j) ls) (hR : zRels K ad σ.2.2.2.2.1 st sm) (hn : n0 ≤ σ.2.2.2.2.1) (hc : c0 ≤ σ.2.2.1) (hs : s0 ≤ σ.2.2.2.1)
    (GA : zGoA p l e R s m args below meth c Q K ph j ad0 n0 c0 s0 A) : W p l e R s m args below meth c H locs (σ.2.2.1 - c0) (σ.2.2.2.1 - s0) Q (F0 m pc lm sm) := by
  obtain ⟨f, rfl, hj, rfl⟩ := zk_if_acmp hck
  have hz1 : zstI (zmc j) (.if_acmp g u) is ls st σ = some A := hz
  delta zstI at hz1
  dsimp only at hz1
  split at hz1
  · cases g
    case eq => cases hz1; exact zs_acmp_eq hd hj hi hpc C hag hP hS hL hR hn hc hs GA.1 GA.2
    case ne => cases hz1; exact zs_acmp_ne hd hj hi hpc C hag hP hS hL hR hn hc hs GA.1 GA.2
  · cases hz1
theorem zp_tableswitch {u lo hi2 : Int} {q : Array Int} (hz : zst (zqq K ph) (zmc j) (.tableswitch u lo hi2 q :: is) ls st σ = some A) (hck : zck (zmo j) (zpc j) pc len r (.tableswitch u lo hi2 q) = true) (hd : decode (zmb j) pc = .ok (r, len)) (C : zAct p l R s m args meth c K j d) (hag : zag ad0 ad n0) (hi : is = zdrop (zmc j).1 (t + 1)) (hpc : is = [] ∨ (zpc j)[t + 1]? = some (pc + len)) (hP : zPic K ph ad σ H) (hS : va_S K.A s.heap H locs) (hL : zLoc K ad σ.2.2.2.2.1 lm (zml j) ls) (hR : zRels K ad σ.2.2.2.2.1 st sm) (hn : n0 ≤ σ.2.2.2.2.1) (hc : c0 ≤ σ.2.2.1) (hs : s0 ≤ σ.2.2.2.1)
    (GA : zGoA p l e R s m args below meth c Q K ph j ad0 n0 c0 s0 A) : W p l e R s m args below meth c H locs (σ.2.2.1 - c0) (σ.2.2.2.1 - s0) Q (F0 m pc lm sm) := by
  obtain ⟨f, q2, rfl, hlen, hj, hj2⟩ := zk_tableswitch hck
  have hz1 : zstI (zmc j) (.tableswitch u lo hi2 q) is ls st σ = some A := hz
  delta zstI at hz1
  dsimp only at hz1
  split at hz1
  · cases hz1
    exact zs_tableswitch hd hlen hj hj2 C hag hP hS hL hR hn hc hs GA.2.2
  · cases hz1
theorem zp_lookupswitch {u : Int} {q : Array (Int × Int)} (hz : zst (zqq K ph) (zmc j) (.lookupswitch u q :: is) ls st σ = some A) (hck : zck (zmo j) (zpc j) pc len r (.lookupswitch u q) = true) (hd : decode (zmb j) pc = .ok (r, len)) (C : zAct p l R s m args meth c K j d) (hag : zag ad0 ad n0) (hi : is = zdrop (zmc j).1 (t + 1)) (hpc : is = [] ∨ (zpc j)[t + 1]? = some (pc + len)) (hP : zPic K ph ad σ H) (hS : va_S K.A s.heap H locs) (hL : zLoc K ad σ.2.2.2.2.1 lm (zml j) ls) (hR : zRels K ad σ.2.2.2.2.1 st sm) (hn : n0 ≤ σ.2.2.2.2.1) (hc : c0 ≤ σ.2.2.1) (hs : s0 ≤ σ.2.2.2.1)
    (GA : zGoA p l e R s m args below meth c Q K ph j ad0 n0 c0 s0 A) : W p l e R s m args below meth c H locs (σ.2.2.1 - c0) (σ.2.2.2.1 - s0) Q (F0 m pc lm sm) := by
  obtain ⟨f, q2, rfl, hinc, hj, hj2⟩ := zk_lookupswitch hck
  have hz1 : zstI (zmc j) (.lookupswitch u q) is ls st σ = some A := hz
  delta zstI at hz1
  dsimp only at hz1
  split at hz1
  · cases hz1
    exact zs_lookupswitch hd hinc hj hj2 C hag hP hS hL hR hn hc hs GA.2.2
  · cases hz1
theorem zp_goto {u : Int} (hz : zst (zqq K ph) (zmc j) (.goto u :: is) ls st σ = some A) (hck : zck (zmo j) (zpc j) pc len r (.goto u) = true) (hd : decode (zmb j) pc = .ok (r, len)) (C : zAct p l R s m args meth c K j d) (hag : zag ad0 ad n0) (hi : is = zdrop (zmc j).1 (t + 1)) (hpc : is = [] ∨ (zpc j)[t + 1]? = some (pc + len)) (hP : zPic K ph ad σ H) (hS : va_S K.A s.heap H locs) (hL : zLoc K ad σ.2.2.2.2.1 lm (zml j) ls) (hR : zRels K ad σ.2.2.2.2.1 st sm) (hn : n0 ≤ σ.2.2.2.2.1) (hc : c0 ≤ σ.2.2.1) (hs : s0 ≤ σ.2.2.2.1)
    (GA : zGoA p l e R s m args below meth c Q K ph j ad0 n0 c0 s0 A) : W p l e R s m args below meth c H locs (σ.2.2.1 - c0) (σ.2.2.2.1 - s0) Q (F0 m pc lm sm) := by
  obtain ⟨f, rfl, hj, rfl⟩ := zk_goto hck
  have hz1 : zgo (zdrop (zmc j).1 u.toNat) ls st σ = some A := hz
  cases hz1
  exact zs_goto hd hj C hag hP hS hL hR hn hc hs GA.2.2
theorem zp_aconst_null  (hz : zst (zqq K ph) (zmc j) (.aconst_null :: is) ls st σ = some A) (hck : zck (zmo j) (zpc j) pc len r (.aconst_null) = true) (hd : decode (zmb j) pc = .ok (r, len)) (C : zAct p l R s m args meth c K j d) (hag : zag ad0 ad n0) (hi : is = zdrop (zmc j).1 (t + 1)) (hpc : is = [] ∨ (zpc j)[t + 1]? = some (pc + len)) (hP : zPic K ph ad σ H) (hS : va_S K.A s.heap H locs) (hL : zLoc K ad σ.2.2.2.2.1 lm (zml j) ls) (hR : zRels K ad σ.2.2.2.2.1 st sm) (hn : n0 ≤ σ.2.2.2.2.1) (hc : c0 ≤ σ.2.2.1) (hs : s0 ≤ σ.2.2.2.1)
    (GA : zGoA p l e R s m args below meth c Q K ph j ad0 n0 c0 s0 A) : W p l e R s m args below meth c H locs (σ.2.2.1 - c0) (σ.2.2.2.1 - s0) Q (F0 m pc lm sm) := by
  obtain ⟨rfl, rfl⟩ := zk_aconst_null hck
  have hz1 : zgo is ls ((4, -1, 0) :: st) σ = some A := hz
  cases hz1
  exact zs_aconst_null hd C hag hi hpc hP hS hL hR hn hc hs GA.2.2
end ZP
