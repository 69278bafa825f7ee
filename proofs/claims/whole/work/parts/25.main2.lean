/-! ## a run of the abstract machine is one of the machine -/
/-- what is asked of a method that runs -/
def zRun (l : Launch) (K : zCx) (ph : Bool) (n : Nat) : Prop := ∀ (d j : Nat), 0 < j → j < 317 → ∀ (p : Program) (e : Env) (R : Room) (s : State) (m : MethodId) (args : Array Value) (below : List Frame) (meth : Method) (c : Code) (Q : State → Prop) (ad0 : Nat → Nat) (n0 c0 s0 : Nat) (is : zL) (ls st : List zV) (σ : zS) (r : zV × zS),
  zX (zqq K ph) n d (zmc j) is ls st σ = some r → zAct p l R s m args meth c K j d → zNcs s → ((j = 316 ∧ r.1.1 < 100) ∨ zHt c j) → r.2.2.2.1 - c0 ≤ R.cells → r.2.2.2.2.1 - s0 ≤ R.slots →
  (∀ (is : zL) (ls st : List zV) (σ : zS), zEnds (zmc j) is st σ r.1 r.2 → zGo p l e R s m args below meth c Q K ph j ad0 n0 c0 s0 is ls st σ) → zUp p l e R s m args below meth c Q K ph j ad0 n0 c0 s0 r →
  zGo p l e R s m args below meth c Q K ph j ad0 n0 c0 s0 is ls st σ
/-- what is thrown and not caught, where the run is a method's own -/
theorem zUp_of {p : Program} {l : Launch} {e : Env} {R : Room} {s : State} {m : MethodId} {args : Array Value} {below : List Frame} {meth : Method} {c : Code} {K : zCx} {ph : Bool} {j d : Nat} {ad0 : Nat → Nat} {n0 c0 s0 : Nat} {r : zV × zS} (C : zAct p l R s m args meth c K j d) :
    zUp p l e R s m args below meth c (vx_MQ below (zQc K ph ad0 n0 r) (zXC K ph ad0 n0 r) args s (r.2.2.2.1 - c0) (r.2.2.2.2.1 - s0) K.A) K ph j ad0 n0 c0 s0 r := by
  intro h100 ad' q ce H1 locs1 lm rest pc hag hP hS hn hcell hv hcl hpass
  obtain ⟨hx, hb, hml, hown, hts, hcst, hst, hlk, hret, -, hfr, hlo⟩ := C
  exact vx_outP hown hlk hpass hcell hv hcl (fun U hU _ => ⟨h100, rfl, ⟨ad', hag, by rw [hU]; exact hP⟩, hS.F hU, hn⟩) hS.2.2 (Nat.le_refl _) (Nat.le_refl _)
theorem zMet_of {l : Launch} {K : zCx} {ph : Bool} {n d j : Nat} {as : List zV} {σ : zS} {x : zV × zS} (IH : zRun l K ph n) (hst : l.stackTraces = false) (h0 : 0 < j) (h1 : j < 316) (hn1 : zn1 as = true) (hlen : as.length ≤ zml j) (hx : zX (zqq K ph) n d (zmc j) (zmc j).1 (zpad (zml j) as) [] σ = some x) : zMet l K ph j d as σ x := by
  intro ad
  have hmd := zMd_ok h0 h1
  unfold zMd at hmd
  rw [Bool.and_eq_true, Bool.and_eq_true, Bool.and_eq_true] at hmd
  obtain ⟨⟨⟨d1, d2⟩, d3⟩, d4⟩ := hmd
  have d4 := of_decide_eq_true d4
  have body : ∀ (p : Program) (e : Env) (s : State) (m : MethodId) (args : Array Value) (below : List Frame) (meth : Method) (c : Code) (s₁ : State), BodyLoose p l (zmy j) (headSpec (zws j) (zrm d (x.2.2.2.1 - σ.2.2.1) (x.2.2.2.2.1 - σ.2.2.2.1))) (zmb j) (zml j) (zmr j) e s m args below meth c s₁ → c.maxLocals = zml j → zHt c j → zPc K ph ad σ as args s →
      W p l e (zrm d (x.2.2.2.1 - σ.2.2.1) (x.2.2.2.2.1 - σ.2.2.2.1)) s m args below meth c s.heap [] 0 0 (vx_MQ below (zQc K ph ad σ.2.2.2.2.1 x) (zXC K ph ad σ.2.2.2.2.1 x) args s (x.2.2.2.1 - σ.2.2.1) (x.2.2.2.2.1 - σ.2.2.2.1) K.A) (entryFrame m args (zml j)) := by
    intro p e s m args below meth c s₁ B hml hht hP
    obtain ⟨ws, rfl, hR, hP, hcst, hNc⟩ := hP
    have hat := atoms_spec (ws := zws j) B.pre
    have C : zAct p l (zrm d (x.2.2.2.1 - σ.2.2.1) (x.2.2.2.2.1 - σ.2.2.2.1)) s m ws.toArray meth c K j d :=
      ⟨B.exec, B.bytes, hml, by rw [d4]; exact findClass_of_methodNamed B.named, fun w h1 h2 => hat w (List.mem_cons_of_mem _ (List.mem_filter.mpr ⟨h1, h2⟩)), hcst, hst, B.notSynchronized, B.returns, fun h => (name_of_methodNamed B.named B.method).1.trans h, Nat.le_refl _, Nat.le_refl _⟩
    have hL := zLoc_entry hR hn1 hlen
    have hg := IH d j h0 (by omega) p e _ s m ws.toArray below meth c _ ad σ.2.2.2.2.1 σ.2.2.1 σ.2.2.2.1 _ _ _ _ _ hx C hNc (Or.inr hht) (Nat.le_refl _) (Nat.le_refl _) (fun is ls st σ1 hE => zs_end h0 h1 hE hht C (Nat.le_refl _) (Nat.le_refl _)) (zUp_of C)
    have hg2 := hg ad s.heap [] _ [] 0 0 (zag.rf _ _) (by cases (zmc j).1 <;> rfl) (Or.inr (zpc0 h0 (by omega))) hP ⟨Nat.le_refl _, fun _ _ _ => rfl, fun z hz => by cases hz⟩ hL trivial (Nat.le_refl _) (Nat.le_refl _) (Nat.le_refl _)
    rw [Nat.sub_self, Nat.sub_self] at hg2
    rw [lg_entry_eq]
    exact hg2
  cases hhe : (zmh j).isEmpty with
  | true =>
    have hcw : zws j = Cond.code (zmy j) (zmb j) (zml j) (zmr j) :: zGood := by
      unfold zws zcw
      rw [hhe]
    refine vx_ofW d3 hcw (fun p e s m args below meth c s₁ B hml ht hP => body p e s m args below meth c s₁ B hml ?_ hP)
    have e1 : zmh j = [] := by
      cases hz : zmh j with
      | nil => rfl
      | cons a b => rw [hz] at hhe; cases hhe
    have e2 : c.exceptionTable.toList = [] := by
      cases hz : c.exceptionTable.toList with
      | nil => rfl
      | cons a b => exact (ht a (by rw [hz]; exact List.mem_cons_self)).elim
    unfold zHt
    rw [e1, e2]
    rfl
  | false =>
    have hcw : zws j = Cond.codeWith (zmy j) (zmb j) (zml j) (zmr j) (zmh j) :: zGood := by
      unfold zws zcw
      rw [hhe]
    refine vx_ofWH d3 hcw (fun p e s m args below meth c s₁ B hml hP => body p e s m args below meth c s₁ B hml ?_ hP)
    obtain ⟨m9, meth9, c9, hn9, g1, g2, g3, g4, g5, g6, g7, g8⟩ := Cond.codeWith_spec (atoms_spec (ws := zws j) B.pre _ (by rw [hcw]; exact List.mem_cons_self))
    cases Option.some.inj (hn9.symm.trans B.named)
    cases Option.some.inj (g1.symm.trans B.method)
    cases Option.some.inj (g2.symm.trans (Stand.of_body B).code)
    exact g5
theorem zMain {l : Launch} {K : zCx} {ph : Bool} (hLK : K.L ≤ 3072) (hst : l.stackTraces = false) : ∀ n, zRun l K ph n := by
  intro n
  induction n with
  | zero => intro d j h0 h1 p e R s m args below meth c Q ad0 n0 c0 s0 is ls st σ r h; simp [zX] at h
  | succ n IH =>
    intro d j h0 h1 p e R s m args below meth c Q ad0 n0 c0 s0 is ls st σ r h C hNc hht hRc hRs hE hU
    have hgr := zX_gr _ _ _ _ h
    rw [zX] at h
    cases hz : zst (zqq K ph) (zmc j) is ls st σ with
    | none => rw [hz] at h; simp at h
    | some A =>
      have hg := zst_gr hz
      rw [hz] at h
      have go : ∀ (is : zL) (ls st : List zV) (σ : zS), zX (zqq K ph) n d (zmc j) is ls st σ = some r → zGo p l e R s m args below meth c Q K ph j ad0 n0 c0 s0 is ls st σ := fun is ls st σ h => IH d j h0 h1 p e R s m args below meth c Q ad0 n0 c0 s0 is ls st σ r h C hNc hht hRc hRs hE hU
      rcases A with ⟨is1, ls1, st1, σ1⟩ | ⟨⟨o, x, y⟩, ⟨is1, ls1, st1, σ1⟩, ⟨is2, ls2, st2, σ2⟩⟩ | ⟨g, is1, ls1, st1, σ1⟩ | ⟨j2, as, is1, ls1, st1, σ1⟩ | ⟨v1, σ1⟩ | ⟨g, v1, σ1⟩
      · have hg1 := zX_gr _ _ _ _ h
        exact zgo_of h0 h1 hLK hz C ⟨Nat.le_trans (Nat.sub_le_sub_right hg1.1 _) hRc, Nat.le_trans (Nat.sub_le_sub_right hg1.2.1 _) hRs, go _ _ _ _ h⟩
      · dsimp only at h
        refine zgo_of h0 h1 hLK hz C ⟨fun hc => ?_, fun hc => ?_⟩
        · rw [if_pos hc] at h
          exact go _ _ _ _ h
        · rw [if_neg hc] at h
          exact go _ _ _ _ h
      · dsimp only at h
        split at h
        · rename_i hg9
          exact zgo_of h0 h1 hLK hz C ⟨hg9, go _ _ _ _ h⟩
        · cases h
      · cases d with
        | zero => simp at h
        | succ d =>
          dsimp only at h
          obtain ⟨x, hx⟩ := zK_some h
          rw [hx] at h
          obtain ⟨n2, rfl, rfl, rfl, hsp, hn1, hs4, hrc⟩ := zst_call hz
          intro ad H locs lm sm pc t hag hi hpc hP hS hL hR hn hc hs
          obtain ⟨hat, hi2, len, r2, e2, e3, hpc2⟩ := zpos h0 h1 hi hpc
          obtain ⟨rfl, rfl, k0, k1, i, hkind⟩ := zk_call e3
          have hpc1 := hpc.resolve_left (fun z => by cases z)
          have hxg := zX_gr _ _ _ _ hx
          have hkg := zK_gr (q := zqq K ph) (n := n) (d := d + 1) (c := zmc j) (fun h => zX_gr _ _ _ _ h) h
          have hlen : as.length ≤ zml j2 := by
            obtain ⟨pre, -, e9, e8⟩ := zsplit_ok _ _ _ _ _ hsp
            have := (zml_ok k0 k1).2
            rw [e9, List.append_nil, List.length_reverse, e8]
            exact this
          refine zs_call k0 k1 hkind e2 hsp (zs4_len hs4) hrc (zMet_of IH hst k0 k1 hn1 hlen hx) ⟨hxg.1, hxg.2.1⟩ hNc (Nat.le_trans (Nat.sub_le_sub_right hkg.1 _) hRc) (Nat.le_trans (Nat.sub_le_sub_right hkg.2.1 _) hRs) C hP hS hL hR hc hs ?_ ?_
          · intro ad' v rest H1 locs1 g1 g2 g3 g4 g5 g6
            have hag' := hag.tr g1 hn
            have hL' := zLoc_more g1 g6 hL
            have hR' := zRels_more g1 g6 g3
            obtain ⟨⟨u, a, b⟩, σ2⟩ := x
            rcases g2 with ⟨f1, rfl⟩ | ⟨f1, f2, w, rfl, f3⟩
            · have f1 : u = 9 := f1
              subst f1
              rw [zK_v] at h
              exact go _ _ _ _ h ad' H1 locs1 lm _ _ _ hag' hi2 hpc2 g4 g5 hL' hR' (Nat.le_trans hn g6) (Nat.le_trans hc hxg.1) (Nat.le_trans hs hxg.2.1)
            · have f1 : u ≠ 9 := f1
              have f2 : u < 100 := f2
              rw [zK_ne f1] at h
              split at h
              · exact go _ _ _ _ h ad' H1 locs1 lm _ _ _ hag' hi2 hpc2 g4 g5 hL' ⟨f3, hR'⟩ (Nat.le_trans hn g6) (Nat.le_trans hc hxg.1) (Nat.le_trans hs hxg.2.1)
              · rename_i hb
                have := Nat.le_of_ble_eq_true hb
                omega
          · intro h100 ad' q ce rest H1 locs1 g1 g4 g5 g6 hcell hv hcl
            have hag' := hag.tr g1 hn
            have hL' := zLoc_more g1 g6 hL
            obtain ⟨⟨u, a, b⟩, σ2⟩ := x
            have h100 : 100 ≤ u ∧ u < 105 := h100
            rw [zK_ne (show u ≠ 9 by omega)] at h
            split at h
            · rename_i hb
              have : Nat.ble 100 u = true := by rw [Nat.ble_eq]; omega
              rw [this] at hb
              cases hb
            · rcases hht with ⟨rfl, hr100⟩ | hht
              · have f1 : zhd (zmc 316).2.1 u = none := rfl
                rw [f1] at h
                have h : ((u, a, b), σ2) = r := Option.some.inj h
                subst h
                have hr100 : u < 100 := hr100
                omega
              refine zs_catch h0 h1 C hNc hht hat hpc1 h100 hcell hv hcl (fun hh hp f1 f2 => ?_) (fun f1 f2 => ?_)
              · rw [f1] at h
                exact go _ _ _ _ h ad' H1 locs1 lm [.ref q] hp hh hag' rfl (Or.inr f2) g4 g5 hL' ⟨⟨some q, rfl⟩, trivial⟩ (Nat.le_trans hn g6) (Nat.le_trans hc hxg.1) (Nat.le_trans hs hxg.2.1)
              · rw [f1] at h
                have h : ((u, a, b), σ2) = r := Option.some.inj h
                subst h
                exact hU h100 ad' q ce H1 locs1 lm rest pc hag' g4 g5 (Nat.le_trans hn g6) hcell hv hcl f2
      · have h : (v1, σ1) = r := Option.some.inj h
        subst h
        exact hE _ _ _ _ (zst_end hz)
      · dsimp only at h
        split at h
        · rename_i hg9
          have h : (v1, σ1) = r := Option.some.inj h
          subst h
          exact hE _ _ _ _ (zst_end hz hg9)
        · cases h
