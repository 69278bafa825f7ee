/-! ## the steps of fields once more, rows of references, new objects -/
section ZP
variable {p : Program} {l : Launch} {e : Env} {R : Room} {s : State} {m : MethodId} {args : Array Value} {below : List Frame} {meth : Method} {c : Code} {Q : State → Prop} {K : zCx} {ph : Bool} {j d : Nat} {ad0 : Nat → Nat} {n0 c0 s0 : Nat}
variable {is : zL} {ls st : List zV} {σ : zS} {ad : Nat → Nat} {H : Heap} {locs : List Loc} {lm : Array Slot} {sm : List Value} {pc t len : Nat} {r : Instr} {A : zA}
theorem zp_putfield {k : Nat} (h0 : 0 < j) (h1 : j < 317) (hLK : K.L ≤ 3072) (hat : (zmc j).1[t]? = some (.putfield k)) (hz : zst (zqq K ph) (zmc j) (.putfield k :: is) ls st σ = some A) (hck : zck (zmo j) (zpc j) pc len r (.putfield k) = true) (hd : decode (zmb j) pc = .ok (r, len)) (C : zAct p l R s m args meth c K j d) (hag : zag ad0 ad n0) (hi : is = zdrop (zmc j).1 (t + 1)) (hpc : is = [] ∨ (zpc j)[t + 1]? = some (pc + len)) (hP : zPic K ph ad σ H) (hS : va_S K.A s.heap H locs) (hL : zLoc K ad σ.2.2.2.2.1 lm (zml j) ls) (hR : zRels K ad σ.2.2.2.2.1 st sm) (hn : n0 ≤ σ.2.2.2.2.1) (hc : c0 ≤ σ.2.2.1) (hs : s0 ≤ σ.2.2.2.1)
    (GA : zGoA p l e R s m args below meth c Q K ph j ad0 n0 c0 s0 A) : W p l e R s m args below meth c H locs (σ.2.2.1 - c0) (σ.2.2.2.1 - s0) Q (F0 m pc lm sm) := by
  have hk1 : zckl (zmo j) len r (.putfield k) = true := hck
  delta zckl at hk1
  dsimp only at hk1
  split at hk1
  rotate_left
  · cases hk1
  rw [Bool.and_eq_true] at hk1
  have e2 := Nat.eq_of_beq_eq_true hk1.1
  have hl := hk1.2
  subst e2
  have hz1 : zstM (zqq K ph) (.putfield k) is ls st σ = some A := hz
  delta zstM at hz1
  dsimp only at hz1
  split at hz1
  · split at hz1
    · rename_i hu
      have hu := Nat.eq_of_beq_eq_true hu
      have hk9 : k < 1000 := by
        have hkr := (zFL_any hl).2
        by_cases hk9 : k < 1000
        · exact hk9
        · obtain ⟨w0, ws0, rfl, r0, hR1⟩ := zRels_cons hR
          obtain ⟨w1, ws1, rfl, r1, hR2⟩ := zRels_cons hR1
          obtain ⟨rfl, h10, h35, hx0, hxn, hst, hy⟩ := (zRel_o (by omega) (by omega)).mp r1
          have hz9 := zST_ok (Nat.lt_of_lt_of_le hxn hP.2.2.2.2.1)
          omega
      split at hz1
      · rename_i hv
        split at hz1
        · split at hz1
          · rename_i hzf
            cases hz1
            exact zs_putfield hd hl hu hk9 hv (fun z => by rw [hzf] at z; cases z) C hag hi hpc hP hS hL hR hn hc hs GA.2.2
          · cases hz1
            exact zs_putfield hd hl hu hk9 hv (fun _ => GA.1) C hag hi hpc hP hS hL hR hn hc hs GA.2
        · cases hz1
      · rename_i v hv
        split at hz1
        · cases hz1
        · rename_i hph
          have hph : ph = false := hph
          subst hph
          split at hz1
          · rename_i hdv
            have hdv := of_decide_eq_true hdv
            cases hz1
            rw [hdv] at hv
            exact zs_putref hd hl hu hk9 hv (zpf_at h0 h1 hat hv) C hag hi hpc hP hS hL hR hn hc hs GA.2.2
          · cases hz1
    · cases hz1
  · cases hz1
end ZP
