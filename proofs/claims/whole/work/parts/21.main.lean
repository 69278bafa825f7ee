/-! ## a run of the abstract machine is one of the machine -/
theorem zK_gr {q : zQ} {n d : Nat} {c : zC} {is : zL} {ls st : List zV} {x r : zV × zS} (ih : ∀ {is : zL} {ls st : List zV} {σ : zS} {r : zV × zS}, zX q n d c is ls st σ = some r → zGr σ r.2) (h : zK (zX q n d c) zEx c is ls st (some x) = some r) : zGr x.2 r.2 := by
  obtain ⟨⟨t, a, b⟩, σ⟩ := x
  by_cases h9 : t = 9
  · subst h9
    exact ih h
  · rw [zK_ne h9] at h
    split at h
    · exact ih h
    · split at h
      · exact ih h
      · cases h
        exact zGr_rf _
theorem zX_gr (q : zQ) : ∀ (n d : Nat) (c : zC) {is : zL} {ls st : List zV} {σ : zS} {r : zV × zS}, zX q n d c is ls st σ = some r → zGr σ r.2 := by
  intro n
  induction n with
  | zero => intro d c is ls st σ r h; simp [zX] at h
  | succ n ih =>
    intro d c is ls st σ r h
    rw [zX] at h
    cases hz : zst q c is ls st σ with
    | none => rw [hz] at h; simp at h
    | some A =>
      have hg := zst_gr hz
      rw [hz] at h
      rcases A with ⟨is1, ls1, st1, σ1⟩ | ⟨⟨o, x, y⟩, ⟨is1, ls1, st1, σ1⟩, ⟨is2, ls2, st2, σ2⟩⟩ | ⟨g, is1, ls1, st1, σ1⟩ | ⟨j, as, is1, ls1, st1, σ1⟩ | ⟨v1, σ1⟩ | ⟨g, v1, σ1⟩
      · exact zGr.tr hg (ih _ _ h)
      · dsimp only at h
        split at h
        · exact zGr.tr hg.1 (ih _ _ h)
        · exact zGr.tr hg.2 (ih _ _ h)
      · dsimp only at h
        split at h
        · exact zGr.tr hg (ih _ _ h)
        · cases h
      · cases d with
        | zero => simp at h
        | succ d =>
          dsimp only at h
          obtain ⟨x, hx⟩ := zK_some h
          rw [hx] at h
          exact zGr.tr hg (zGr.tr (ih _ _ hx) (zK_gr (fun h => ih _ _ h) h))
      · cases h
        exact hg
      · dsimp only at h
        split at h
        · cases h
          exact hg
        · cases h
/-- steps that go on within the method, and that do not -/
def zPl (A : zA) : Prop := match A with
  | .inl _ => True
  | .inr (.inl _) => True
  | .inr (.inr (.inl _)) => True
  | _ => False
theorem zstI_pl {c : zC} {i : Instr} {is : zL} {ls st : List zV} {σ : zS} {A : zA} (h : zstI c i is ls st σ = some A) : zPl A := by
  delta zstI at h
  try dsimp only at h
  repeat' split at h
  all_goals first | (cases h; done) | (cases h; exact trivial)
theorem zstM_pl {q : zQ} {i : Instr} {is : zL} {ls st : List zV} {σ : zS} {A : zA} (h : zstM q i is ls st σ = some A) : zPl A := by
  delta zstM at h
  try dsimp only at h
  repeat' split at h
  all_goals first | (cases h; done) | (cases h; exact trivial)
/-- no call -/
def zNc (A : zA) : Prop := match A with
  | .inr (.inr (.inr (.inl _))) => False
  | _ => True
theorem zPl.nc {A : zA} (h : zPl A) : zNc A := by
  rcases A with _ | _ | _ | _ | _ | _ <;> first | exact trivial | exact h.elim
theorem zstN_nc {q : zQ} {i : Instr} {is : zL} {ls st : List zV} {σ : zS} {A : zA} (h : zstN q i is ls st σ = some A) : zNc A := by
  delta zstN at h
  try dsimp only at h
  repeat' split at h
  all_goals first | (cases h; done) | (unfold znw at h; split at h <;> (cases h; try exact trivial)) | (cases h; exact trivial)
theorem zstR_nc {r : Nat} {i : Instr} {st : List zV} {σ : zS} {A : zA} (h : zstR r i st σ = some A) : zNc A := by
  delta zstR at h
  try dsimp only at h
  repeat' split at h
  all_goals first | (cases h; done) | (cases h; exact trivial)
theorem zst_call {q : zQ} {c : zC} {is is1 : zL} {ls st ls1 st1 as : List zV} {σ σ1 : zS} {j2 : Nat} (h : zst q c is ls st σ = some (.inr (.inr (.inr (.inl (j2, as, is1, ls1, st1, σ1)))))) :
    ∃ n2, is = .invokeinterface j2 n2 :: is1 ∧ ls1 = ls ∧ σ1 = σ ∧ zsplit n2 st [] = some (as, st1) ∧ zn1 as = true ∧ zs4 st1 = true ∧ zrc (zrtl.getD j2 0) as = true := by
  delta zst at h
  try dsimp only at h
  repeat' split at h
  all_goals first
    | (cases h; done)
    | exact (zPl.nc (zstM_pl h)).elim
    | exact (zPl.nc (zstI_pl h)).elim
    | exact (zstN_nc h).elim
    | exact (zstR_nc h).elim
    | (rename_i hsp x9 hb
       rw [Bool.and_eq_true, Bool.and_eq_true] at hb
       cases h
       exact ⟨_, rfl, rfl, rfl, hsp, hb.1.1, hb.1.2, hb.2⟩)
theorem zs4_len {st : List zV} (h : zs4 st = true) : st.length ≤ 4 := by
  unfold zs4 at h
  split at h <;> first | (cases h; done) | (simp; done) | (simp only [List.length_cons, List.length_nil]; omega)
section ZG
variable {p : Program} {l : Launch} {e : Env} {R : Room} {s : State} {m : MethodId} {args : Array Value} {below : List Frame} {meth : Method} {c : Code} {Q : State → Prop} {K : zCx} {ph : Bool} {j d : Nat} {ad0 : Nat → Nat} {n0 c0 s0 : Nat}
variable {is : zL} {ls st : List zV} {σ : zS}
/-- where a point of the code lies -/
theorem zpos {i : Instr} {t pc : Nat} (h0 : 0 < j) (h1 : j < 317) (hi : i :: is = zdrop (zmc j).1 t) (hpc : i :: is = [] ∨ (zpc j)[t]? = some pc) : (zmc j).1[t]? = some i ∧ is = zdrop (zmc j).1 (t + 1) ∧
    ∃ (len : Nat) (r : Instr), decode (zmb j) pc = .ok (r, len) ∧ zck (zmo j) (zpc j) pc len r i = true ∧ (is = [] ∨ (zpc j)[t + 1]? = some (pc + len)) := by
  obtain ⟨hat, hi2⟩ := zdrop_at _ _ _ _ hi
  obtain ⟨pc2, len, r, e1, e2, e3, e4⟩ := zwk_at _ _ (zWk_ok h0 h1) t i hat
  have hpp : (zpc j)[t]? = some pc := by
    rcases hpc with h | h
    · cases h
    · exact h
  have : pc2 = pc := Option.some.inj (e1.symm.trans hpp)
  subst this
  refine ⟨hat, hi2, len, r, e2, e3, ?_⟩
  cases is with
  | nil => exact Or.inl rfl
  | cons x2 is2 => exact Or.inr (e4 x2 (zdrop_at _ _ _ _ hi2).1)
theorem zgo_of {A : zA} (h0 : 0 < j) (h1 : j < 317) (hLK : K.L ≤ 3072) (hz : zst (zqq K ph) (zmc j) is ls st σ = some A) (C : zAct p l R s m args meth c K j d) (GA : zGoA p l e R s m args below meth c Q K ph j ad0 n0 c0 s0 A) : zGo p l e R s m args below meth c Q K ph j ad0 n0 c0 s0 is ls st σ := by
  intro ad H locs lm sm pc t hag hi hpc hP hS hL hR hn hc hs
  cases is with
  | nil => cases hz
  | cons i is =>
    obtain ⟨hat, hi2, len, r, e2, e3, hpc2⟩ := zpos h0 h1 hi hpc
    exact zstepW h0 h1 hLK hat hz e3 e2 C hag hi2 hpc2 hP hS hL hR hn hc hs GA
end ZG
