/-! ## the step, whatever the instruction; counts only grow -/
def zGr (σ σ' : zS) : Prop := σ.2.2.1 ≤ σ'.2.2.1 ∧ σ.2.2.2.1 ≤ σ'.2.2.2.1 ∧ σ.2.2.2.2.1 ≤ σ'.2.2.2.2.1
theorem zGr_rf (σ : zS) : zGr σ σ := ⟨Nat.le_refl _, Nat.le_refl _, Nat.le_refl _⟩
theorem zGr.tr {σ σ' σ2 : zS} (h : zGr σ σ') (h2 : zGr σ' σ2) : zGr σ σ2 := ⟨Nat.le_trans h.1 h2.1, Nat.le_trans h.2.1 h2.2.1, Nat.le_trans h.2.2 h2.2.2⟩
def zGrA (σ : zS) (A : zA) : Prop := match A with
  | .inl (_, _, _, σ1) => zGr σ σ1
  | .inr (.inl (_, (_, _, _, σ1), (_, _, _, σ2))) => zGr σ σ1 ∧ zGr σ σ2
  | .inr (.inr (.inl (_, _, _, _, σ1))) => zGr σ σ1
  | .inr (.inr (.inr (.inl (_, _, _, _, _, σ1)))) => zGr σ σ1
  | .inr (.inr (.inr (.inr (.inl (_, σ1))))) => zGr σ σ1
  | .inr (.inr (.inr (.inr (.inr (_, _, σ1))))) => zGr σ σ1
theorem zstI_gr {c : zC} {i : Instr} {is : zL} {ls st : List zV} {σ : zS} {A : zA} (h : zstI c i is ls st σ = some A) : zGrA σ A := by
  delta zstI at h
  try dsimp only at h
  repeat' split at h
  all_goals first | (cases h; done) | (cases h; exact zGr_rf σ) | (cases h; exact ⟨zGr_rf σ, zGr_rf σ⟩)
theorem zstM_gr {q : zQ} {i : Instr} {is : zL} {ls st : List zV} {σ : zS} {A : zA} (h : zstM q i is ls st σ = some A) : zGrA σ A := by
  delta zstM at h
  try dsimp only at h
  repeat' split at h
  all_goals first | (cases h; done) | (cases h; exact zGr_rf σ)
theorem znw_gr {u k : Nat} {y : Int} {is : zL} {ls st : List zV} {σ : zS} {A : zA} (h : znw u y k is ls st σ = some A) : zGrA σ A := by
  unfold znw at h
  split at h
  · cases h
    exact ⟨Nat.le_succ _, Nat.le_add_right _ _, Nat.le_succ _⟩
  · cases h
theorem zstN_gr {q : zQ} {i : Instr} {is : zL} {ls st : List zV} {σ : zS} {A : zA} (h : zstN q i is ls st σ = some A) : zGrA σ A := by
  delta zstN at h
  try dsimp only at h
  repeat' split at h
  all_goals first | (cases h; done) | exact znw_gr h | (cases h; exact zGr_rf σ) | (cases h; exact ⟨Nat.le_succ _, Nat.le_add_right _ _, Nat.le_refl _⟩)
theorem zstR_gr {r : Nat} {i : Instr} {st : List zV} {σ : zS} {A : zA} (h : zstR r i st σ = some A) : zGrA σ A := by
  delta zstR at h
  try dsimp only at h
  repeat' split at h
  all_goals first | (cases h; done) | (cases h; exact zGr_rf σ)
theorem zst_gr {q : zQ} {c : zC} {is : zL} {ls st : List zV} {σ : zS} {A : zA} (h : zst q c is ls st σ = some A) : zGrA σ A := by
  delta zst at h
  try dsimp only at h
  repeat' split at h
  all_goals first | (cases h; done) | exact zstM_gr h | exact zstN_gr h | exact zstR_gr h | exact zstI_gr h | (cases h; exact zGr_rf σ)
section ZP
variable {p : Program} {l : Launch} {e : Env} {R : Room} {s : State} {m : MethodId} {args : Array Value} {below : List Frame} {meth : Method} {c : Code} {Q : State → Prop} {K : zCx} {ph : Bool} {j d : Nat} {ad0 : Nat → Nat} {n0 c0 s0 : Nat}
variable {is : zL} {ls st : List zV} {σ : zS} {ad : Nat → Nat} {H : Heap} {locs : List Loc} {lm : Array Slot} {sm : List Value} {pc t len : Nat} {r : Instr} {A : zA}
theorem zstepW {i : Instr} (h0 : 0 < j) (h1 : j < 317) (hLK : K.L ≤ 3072) (hat : (zmc j).1[t]? = some i) (hz : zst (zqq K ph) (zmc j) (i :: is) ls st σ = some A) (hck : zck (zmo j) (zpc j) pc len r i = true) (hd : decode (zmb j) pc = .ok (r, len)) (C : zAct p l R s m args meth c K j d) (hag : zag ad0 ad n0) (hi : is = zdrop (zmc j).1 (t + 1)) (hpc : is = [] ∨ (zpc j)[t + 1]? = some (pc + len)) (hP : zPic K ph ad σ H) (hS : va_S K.A s.heap H locs) (hL : zLoc K ad σ.2.2.2.2.1 lm (zml j) ls) (hR : zRels K ad σ.2.2.2.2.1 st sm) (hn : n0 ≤ σ.2.2.2.2.1) (hc : c0 ≤ σ.2.2.1) (hs : s0 ≤ σ.2.2.2.1)
    (GA : zGoA p l e R s m args below meth c Q K ph j ad0 n0 c0 s0 A) : W p l e R s m args below meth c H locs (σ.2.2.1 - c0) (σ.2.2.2.1 - s0) Q (F0 m pc lm sm) := by
  cases i
  case iadd => exact zp_iadd hz hck hd C hag hi hpc hP hS hL hR hn hc hs GA
  case isub => exact zp_isub hz hck hd C hag hi hpc hP hS hL hR hn hc hs GA
  case imul => exact zp_imul hz hck hd C hag hi hpc hP hS hL hR hn hc hs GA
  case ineg => exact zp_ineg hz hck hd C hag hi hpc hP hS hL hR hn hc hs GA
  case iand => exact zp_iand hz hck hd C hag hi hpc hP hS hL hR hn hc hs GA
  case ior => exact zp_ior hz hck hd C hag hi hpc hP hS hL hR hn hc hs GA
  case ixor => exact zp_ixor hz hck hd C hag hi hpc hP hS hL hR hn hc hs GA
  case ishl => exact zp_ishl hz hck hd C hag hi hpc hP hS hL hR hn hc hs GA
  case ishr => exact zp_ishr hz hck hd C hag hi hpc hP hS hL hR hn hc hs GA
  case iushr => exact zp_iushr hz hck hd C hag hi hpc hP hS hL hR hn hc hs GA
  case i2c => exact zp_i2c hz hck hd C hag hi hpc hP hS hL hR hn hc hs GA
  case i2l => exact zp_i2l hz hck hd C hag hi hpc hP hS hL hR hn hc hs GA
  case l2i => exact zp_l2i hz hck hd C hag hi hpc hP hS hL hR hn hc hs GA
  case ladd => exact zp_ladd hz hck hd C hag hi hpc hP hS hL hR hn hc hs GA
  case lmul => exact zp_lmul hz hck hd C hag hi hpc hP hS hL hR hn hc hs GA
  case lcmp => exact zp_lcmp hz hck hd C hag hi hpc hP hS hL hR hn hc hs GA
  case dup2 => exact zp_dup2 hz hck hd C hag hi hpc hP hS hL hR hn hc hs GA
  case idiv => exact zp_idiv hz hck hd C hag hi hpc hP hS hL hR hn hc hs GA
  case irem => exact zp_irem hz hck hd C hag hi hpc hP hS hL hR hn hc hs GA
  case ldiv => exact zp_ldiv hz hck hd C hag hi hpc hP hS hL hR hn hc hs GA
  case dup => exact zp_dup hz hck hd C hag hi hpc hP hS hL hR hn hc hs GA
  case pop => exact zp_pop hz hck hd C hag hi hpc hP hS hL hR hn hc hs GA
  case aconst_null => exact zp_aconst_null hz hck hd C hag hi hpc hP hS hL hR hn hc hs GA
  case if_icmp g u => exact zp_if_icmp hz hck hd C hag hi hpc hP hS hL hR hn hc hs GA
  case ifCond g u => exact zp_ifCond hz hck hd C hag hi hpc hP hS hL hR hn hc hs GA
  case if_acmp g u => exact zp_if_acmp hz hck hd C hag hi hpc hP hS hL hR hn hc hs GA
  case tableswitch u lo hi9 q => exact zp_tableswitch hz hck hd C hag hi hpc hP hS hL hR hn hc hs GA
  case lookupswitch u q => exact zp_lookupswitch hz hck hd C hag hi hpc hP hS hL hR hn hc hs GA
  case goto u => exact zp_goto hz hck hd C hag hi hpc hP hS hL hR hn hc hs GA
  case iload k => exact zp_iload h0 h1 hLK hat hz hck hd C hag hi hpc hP hS hL hR hn hc hs GA
  case lload k => exact zp_lload h0 h1 hLK hat hz hck hd C hag hi hpc hP hS hL hR hn hc hs GA
  case aload k => exact zp_aload h0 h1 hLK hat hz hck hd C hag hi hpc hP hS hL hR hn hc hs GA
  case istore k => exact zp_istore h0 h1 hLK hat hz hck hd C hag hi hpc hP hS hL hR hn hc hs GA
  case lstore k => exact zp_lstore h0 h1 hLK hat hz hck hd C hag hi hpc hP hS hL hR hn hc hs GA
  case astore k => exact zp_astore h0 h1 hLK hat hz hck hd C hag hi hpc hP hS hL hR hn hc hs GA
  case iinc k u => exact zp_iinc h0 h1 hLK hat hz hck hd C hag hi hpc hP hS hL hR hn hc hs GA
  case iconst k => exact zp_iconst h0 h1 hLK hat hz hck hd C hag hi hpc hP hS hL hR hn hc hs GA
  case sipush k => exact zp_sipush h0 h1 hLK hat hz hck hd C hag hi hpc hP hS hL hR hn hc hs GA
  case getstatic k => exact zp_getstatic h0 h1 hLK hat hz hck hd C hag hi hpc hP hS hL hR hn hc hs GA
  case ldc k => exact zp_ldc h0 h1 hLK hat hz hck hd C hag hi hpc hP hS hL hR hn hc hs GA
  case arraylength  => exact zp_arraylength h0 h1 hLK hat hz hck hd C hag hi hpc hP hS hL hR hn hc hs GA
  case iaload  => exact zp_iaload h0 h1 hLK hat hz hck hd C hag hi hpc hP hS hL hR hn hc hs GA
  case iastore  => exact zp_iastore h0 h1 hLK hat hz hck hd C hag hi hpc hP hS hL hR hn hc hs GA
  case lastore  => exact zp_lastore h0 h1 hLK hat hz hck hd C hag hi hpc hP hS hL hR hn hc hs GA
  case laload  => exact zp_laload h0 h1 hLK hat hz hck hd C hag hi hpc hP hS hL hR hn hc hs GA
  case baload  => exact zp_baload h0 h1 hLK hat hz hck hd C hag hi hpc hP hS hL hR hn hc hs GA
  case getfield k => exact zp_getfield h0 h1 hLK hat hz hck hd C hag hi hpc hP hS hL hR hn hc hs GA
  case putfield k => exact zp_putfield h0 h1 hLK hat hz hck hd C hag hi hpc hP hS hL hR hn hc hs GA
  case aaload  => exact zp_aaload h0 h1 hLK hat hz hck hd C hag hi hpc hP hS hL hR hn hc hs GA
  case aastore  => exact zp_aastore h0 h1 hLK hat hz hck hd C hag hi hpc hP hS hL hR hn hc hs GA
  case newarray u => exact zp_newarray h0 h1 hLK hat hz hck hd C hag hi hpc hP hS hL hR hn hc hs GA
  case anewarray u => exact zp_anewarray h0 h1 hLK hat hz hck hd C hag hi hpc hP hS hL hR hn hc hs GA
  case new k => exact zp_new h0 h1 hLK hat hz hck hd C hag hi hpc hP hS hL hR hn hc hs GA
  case invokespecial k => exact zp_invokespecial h0 h1 hLK hat hz hck hd C hag hi hpc hP hS hL hR hn hc hs GA
  case invokedynamic k => exact zp_invokedynamic h0 h1 hLK hat hz hck hd C hag hi hpc hP hS hL hR hn hc hs GA
  case ifnull u => exact zp_ifnull h0 h1 hLK hat hz hck hd C hag hi hpc hP hS hL hR hn hc hs GA
  case ireturn =>
    have hz1 : zstR (zmc j).2.2 .ireturn st σ = some A := hz
    delta zstR at hz1
    dsimp only at hz1
    repeat' split at hz1
    all_goals first | (cases hz1; done) | (cases hz1; exact GA.elim)
  case lreturn =>
    have hz1 : zstR 0 .lreturn st σ = some A := hz
    delta zstR at hz1
    dsimp only at hz1
    repeat' split at hz1
    all_goals first | (cases hz1; done) | (cases hz1; exact GA.elim)
  case areturn =>
    have hz1 : zstR 0 .areturn st σ = some A := hz
    delta zstR at hz1
    dsimp only at hz1
    repeat' split at hz1
    all_goals first | (cases hz1; done) | (cases hz1; exact GA.elim)
  case return_ =>
    have hz1 : zstR 0 .return_ st σ = some A := hz
    delta zstR at hz1
    dsimp only at hz1
    repeat' split at hz1
    all_goals first | (cases hz1; done) | (cases hz1; exact GA.elim)
  case invokeinterface j2 n2 =>
    delta zst at hz
    dsimp only at hz
    repeat' split at hz
    all_goals first | (cases hz; done) | (cases hz; exact GA.elim)
  all_goals exact absurd (show (none : Option zA) = some A from hz) (fun z => by cases z)
end ZP
