/-! ## the steps of fields, again, rows of references, new objects -/
section ZP
variable {p : Program} {l : Launch} {e : Env} {R : Room} {s : State} {m : MethodId} {args : Array Value} {below : List Frame} {meth : Method} {c : Code} {Q : State → Prop} {K : zCx} {ph : Bool} {j d : Nat} {ad0 : Nat → Nat} {n0 c0 s0 : Nat}
variable {is : zL} {ls st : List zV} {σ : zS} {ad : Nat → Nat} {H : Heap} {locs : List Loc} {lm : Array Slot} {sm : List Value} {pc t len : Nat} {r : Instr} {A : zA}
theorem zp_getfield {k : Nat} (h0 : 0 < j) (h1 : j < 317) (hLK : K.L ≤ 3072) (hat : (zmc j).1[t]? = some (.getfield k)) (hz : zst (zqq K ph) (zmc j) (.getfield k :: is) ls st σ = some A) (hck : zck (zmo j) (zpc j) pc len r (.getfield k) = true) (hd : decode (zmb j) pc = .ok (r, len)) (C : zAct p l R s m args meth c K j d) (hag : zag ad0 ad n0) (hi : is = zdrop (zmc j).1 (t + 1)) (hpc : is = [] ∨ (zpc j)[t + 1]? = some (pc + len)) (hP : zPic K ph ad σ H) (hS : va_S K.A s.heap H locs) (hL : zLoc K ad σ.2.2.2.2.1 lm (zml j) ls) (hR : zRels K ad σ.2.2.2.2.1 st sm) (hn : n0 ≤ σ.2.2.2.2.1) (hc : c0 ≤ σ.2.2.1) (hs : s0 ≤ σ.2.2.2.1)
    (GA : zGoA p l e R s m args below meth c Q K ph j ad0 n0 c0 s0 A) : W p l e R s m args below meth c H locs (σ.2.2.1 - c0) (σ.2.2.2.1 - s0) Q (F0 m pc lm sm) := by
  have hk1 : zckl (zmo j) len r (.getfield k) = true := hck
  delta zckl at hk1
  dsimp only at hk1
  split at hk1
  rotate_left
  · cases hk1
  rw [Bool.and_eq_true] at hk1
  have e2 := Nat.eq_of_beq_eq_true hk1.1
  have hl := hk1.2
  subst e2
  have hz1 : zstM (zqq K ph) (.getfield k) is ls st σ = some A := hz
  delta zstM at hz1
  dsimp only at hz1
  split at hz1
  · split at hz1
    · split at hz1
      · split at hz1
        · cases hz1; exact zs_wtext hd hl GA.1.1 GA.1.2 C hag hi hpc hP hS hL hR hn hc hs GA.2
        · cases hz1
      · split at hz1
        · cases hz1; exact zs_wfact hd hl GA.1.1 GA.1.2 C hag hi hpc hP hS hL hR hn hc hs GA.2
        · cases hz1
      · split at hz1
        · cases hz1; exact zs_sval hd hl C hag hi hpc hP hS hL hR hn hc hs GA.2
        · cases hz1
      · split at hz1
        · cases hz1; exact zs_scod hd hl C hag hi hpc hP hS hL hR hn hc hs GA.2
        · cases hz1
      · cases hz1
    · rename_i hb
      have hk9 : k < 1000 := by
        by_cases hk9 : k < 1000
        · exact hk9
        · have : Nat.ble 1000 k = true := by rw [Nat.ble_eq]; omega
          rw [this] at hb
          cases hb
      split at hz1
      · rename_i hu
        have hu := Nat.eq_of_beq_eq_true hu
        split at hz1
        · rename_i hv
          cases hz1
          exact zs_getfield hd hl hu hk9 (Or.inl ⟨hv, rfl⟩) C hag hi hpc hP hS hL hR hn hc hs GA.2.2
        · rename_i v hv
          split at hz1
          · rename_i hph
            cases hz1
            exact zs_getfield hd hl hu hk9 (Or.inr ⟨hv, by rw [show ph = true from hph]; rfl⟩) C hag hi hpc hP hS hL hR hn hc hs GA.2.2
          · split at hz1
            · rename_i hin
              cases hz1
              exact zs_getfield hd hl hu hk9 (Or.inr ⟨hv, by rw [Bool.or_eq_true]; exact Or.inr hin⟩) C hag hi hpc hP hS hL hR hn hc hs GA.2.2
            · cases hz1
      · cases hz1
  · cases hz1
end ZP
