/-! ## from the law's entry to its loop, and the law's end -/
theorem zPic_0 {K : zCx} {ad : Nat → Nat} {H : Heap} : zPic K false ad zs0 H := by
  refine ⟨fun k q h => ?_, ⟨fun i j p q h => ?_, fun k q h => ?_⟩, fun a k => ?_, fun i => ?_, ?_, fun h => ?_, fun a k _ => ⟨rfl, rfl⟩, fun _ i => rfl, fun a k v h => ?_⟩
  · have := (List.getElem?_eq_some_iff.mp h).1
    rw [zWS_len] at this
    exact absurd this (Nat.not_lt_zero _)
  · have := (List.getElem?_eq_some_iff.mp h).1
    rw [zWS_len] at this
    exact absurd this (Nat.not_lt_zero _)
  · have := (List.getElem?_eq_some_iff.mp h).1
    rw [zWS_len] at this
    exact absurd this (Nat.not_lt_zero _)
  · show if a = 1478 then zI64 0 else zI32 0
    split
    · exact ⟨by decide, by decide⟩
    · exact ⟨by decide, by decide⟩
  · show -1 ≤ (-1 : Int) ∧ (-1 : Int) < 33
    omega
  · show 0 ≤ 1479
    omega
  · cases h
  · have h : false = true := h
    cases h
def zlaw_ls : List zV := [(8, 0, 0), (19, 0, 0), (20, 1464, 0), (31, 1478, 1), (0, 0, 0), (2, 0, 0), (2, 0, 0)]
theorem znw_eq {u k : Nat} {y : Int} {is : zL} {ls st : List zV} {σ : zS} {n : Nat} (h : σ.2.2.2.2.1 = n) (h2 : n < 1479) (h3 : zST n = u) (h4 : u < 30 ∨ zYT n = y) : znw u y k is ls st σ = some (.inl (is, ls, (u, (n : Int), zYT n) :: st, zsN σ k)) := by
  subst h
  unfold znw
  rw [show decide (σ.2.2.2.2.1 < 1479 ∧ zST σ.2.2.2.2.1 = u ∧ (u < 30 ∨ zYT σ.2.2.2.2.1 = y)) = true from decide_eq_true ⟨h2, h3, h4⟩]
  rfl
section ZB
variable {p : Program} {l : Launch} {e : Env} {R : Room} {s : State} {m : MethodId} {args : Array Value} {below : List Frame} {meth : Method} {c : Code} {Q : State → Prop} {K : zCx} {d : Nat} {ad0 : Nat → Nat} {n0 c0 s0 : Nat}
/-- a call that comes back without an answer -/
theorem zgo_call0 {j j2 n2 : Nat} {is : zL} {ls st as st1 : List zV} {σ σ' : zS} {ph : Bool} {n : Nat} (h0 : 0 < j) (h1 : j < 317) (hLK : K.L ≤ 3072) (hst : l.stackTraces = false) (hz : zst (zqq K ph) (zmc j) (.invokeinterface j2 n2 :: is) ls st σ = some (.inr (.inr (.inr (.inl (j2, as, is, ls, st1, σ))))))
    (hx : zX (zqq K ph) n d (zmc j2) (zmc j2).1 (zpad (zml j2) as) [] σ = some ((9, 0, 0), σ')) (C : zAct p l R s m args meth c K j (d + 1)) (hNc : zNcs s) (hRc : σ'.2.2.1 - c0 ≤ R.cells) (hRs : σ'.2.2.2.1 - s0 ≤ R.slots)
    (G : zGo p l e R s m args below meth c Q K ph j ad0 n0 c0 s0 is ls st1 σ') : zGo p l e R s m args below meth c Q K ph j ad0 n0 c0 s0 (.invokeinterface j2 n2 :: is) ls st σ := by
  intro ad H locs lm sm pc t hag hi hpc hP hS hL hR hn hc hs
  obtain ⟨n3, e1, -, -, hsp, hn1, hs4, hrc⟩ := zst_call hz
  cases e1
  obtain ⟨hat, hi2, len, r2, e2, e3, hpc2⟩ := zpos h0 h1 hi hpc
  obtain ⟨rfl, rfl, k0, k1, i, hkind⟩ := zk_call e3
  have hxg := zX_gr _ _ _ _ hx
  have hlen : as.length ≤ zml j2 := by
    obtain ⟨pre, -, e9, e8⟩ := zsplit_ok _ _ _ _ _ hsp
    have := (zml_ok k0 k1).2
    rw [e9, List.append_nil, List.length_reverse, e8]
    exact this
  refine zs_call k0 k1 hkind e2 hsp (zs4_len hs4) hrc (zMet_of (zMain hLK hst n) hst k0 k1 hn1 hlen hx) ⟨hxg.1, hxg.2.1⟩ hNc hRc hRs C hP hS hL hR hc hs ?_ ?_
  · intro ad' v rest H1 locs1 g1 g2 g3 g4 g5 g6
    rcases g2 with ⟨f1, rfl⟩ | ⟨f1, f2, w, rfl, f3⟩
    · exact G ad' H1 locs1 lm _ _ _ (hag.tr g1 hn) hi2 hpc2 g4 g5 (zLoc_more g1 g6 hL) (zRels_more g1 g6 g3) (Nat.le_trans hn g6) (Nat.le_trans hc hxg.1) (Nat.le_trans hs hxg.2.1)
    · exact absurd rfl f1
  · intro h100
    have : 100 ≤ 9 := h100.1
    omega
/-- the law, out of a run of its loop -/
def zlw (k : Nat) : zL := zdrop (zmc 316).1 k
set_option maxRecDepth 100000 in
theorem zlaw_go {σ1 σ2 : zS} {n1 n2 : Nat} (hLK : K.L ≤ 3072) (hst : l.stackTraces = false) (C : zAct p l R s m args meth c K 316 13) (hNc : zNcs s)
    (hx1 : zX (zqq K false) n1 12 (zmc 13) (zmc 13).1 (zpad (zml 13) [(19, 0, 0)]) [] (zsN zs0 17) = some ((9, 0, 0), σ1)) (hn1 : σ1.2.2.2.2.1 = 1464)
    (hx2 : zX (zqq K false) n2 12 (zmc 14) (zmc 14).1 (zpad (zml 14) [(20, 1464, 0)]) [] (zsN σ1 27) = some ((9, 0, 0), σ2)) (hn2 : σ2.2.2.2.2.1 = 1478) (hRc : σ2.2.2.1 + 1 ≤ R.cells) (hRs : σ2.2.2.2.1 + 1 ≤ R.slots)
    (G : zGo p l e R s m args below meth c Q K false 316 ad0 0 0 0 (zlw 13) zlaw_ls [] (zsN σ2 1)) :
    zGo p l e R s m args below meth c Q K false 316 ad0 0 0 0 (zlw 0) [(8, 0, 0), (2, 0, 0), (2, 0, 0), (2, 0, 0), (2, 0, 0), (2, 0, 0), (2, 0, 0)] [] zs0 := by
  have gr1 := zX_gr _ _ _ _ hx1
  have gr2 := zX_gr _ _ _ _ hx2
  have a1 : 1 ≤ σ1.2.2.1 ∧ 17 ≤ σ1.2.2.2.1 := ⟨gr1.1, gr1.2.1⟩
  have a2 : σ1.2.2.1 + 1 ≤ σ2.2.2.1 ∧ σ1.2.2.2.1 + 27 ≤ σ2.2.2.2.1 := ⟨gr2.1, gr2.2.1⟩
  have G12 : zGo p l e R s m args below meth c Q K false 316 ad0 0 0 0 (zlw 12) [(8, 0, 0), (19, 0, 0), (20, 1464, 0), (31, 1478, 1), (2, 0, 0), (2, 0, 0), (2, 0, 0)] [(0, 0, 0)] (zsN σ2 1) :=
    zgo_of (A := .inl (zlw 13, zlaw_ls, [], zsN σ2 1)) (by decide) (by decide) hLK rfl C ⟨by show σ2.2.2.1 + 1 - 0 ≤ R.cells; omega, by show σ2.2.2.2.1 + 1 - 0 ≤ R.slots; omega, G⟩
  have G11 : zGo p l e R s m args below meth c Q K false 316 ad0 0 0 0 (zlw 11) [(8, 0, 0), (19, 0, 0), (20, 1464, 0), (31, 1478, 1), (2, 0, 0), (2, 0, 0), (2, 0, 0)] [] (zsN σ2 1) :=
    zgo_of (A := .inl (zlw 12, _, _, zsN σ2 1)) (by decide) (by decide) hLK rfl C ⟨by show σ2.2.2.1 + 1 - 0 ≤ R.cells; omega, by show σ2.2.2.2.1 + 1 - 0 ≤ R.slots; omega, G12⟩
  have G10 : zGo p l e R s m args below meth c Q K false 316 ad0 0 0 0 (zlw 10) [(8, 0, 0), (19, 0, 0), (20, 1464, 0), (2, 0, 0), (2, 0, 0), (2, 0, 0), (2, 0, 0)] [(31, 1478, 1)] (zsN σ2 1) :=
    zgo_of (A := .inl (zlw 11, _, _, zsN σ2 1)) (by decide) (by decide) hLK rfl C ⟨by show σ2.2.2.1 + 1 - 0 ≤ R.cells; omega, by show σ2.2.2.2.1 + 1 - 0 ≤ R.slots; omega, G11⟩
  have G9 : zGo p l e R s m args below meth c Q K false 316 ad0 0 0 0 (zlw 9) [(8, 0, 0), (19, 0, 0), (20, 1464, 0), (2, 0, 0), (2, 0, 0), (2, 0, 0), (2, 0, 0)] [(0, 1, 0)] σ2 :=
    zgo_of (A := .inl (zlw 10, [(8, 0, 0), (19, 0, 0), (20, 1464, 0), (2, 0, 0), (2, 0, 0), (2, 0, 0), (2, 0, 0)], [(31, 1478, 1)], zsN σ2 1)) (by decide) (by decide) hLK ((show zst (zqq K false) (zmc 316) (zlw 9) [(8, 0, 0), (19, 0, 0), (20, 1464, 0), (2, 0, 0), (2, 0, 0), (2, 0, 0), (2, 0, 0)] [(0, 1, 0)] σ2 = znw 31 1 1 (zlw 10) [(8, 0, 0), (19, 0, 0), (20, 1464, 0), (2, 0, 0), (2, 0, 0), (2, 0, 0), (2, 0, 0)] [] σ2 from rfl).trans (znw_eq (n := 1478) hn2 (by decide) rfl (Or.inr rfl))) C ⟨by show σ2.2.2.1 + 1 - 0 ≤ R.cells; omega, by show σ2.2.2.2.1 + 1 - 0 ≤ R.slots; omega, G10⟩
  have G8 : zGo p l e R s m args below meth c Q K false 316 ad0 0 0 0 (zlw 8) [(8, 0, 0), (19, 0, 0), (20, 1464, 0), (2, 0, 0), (2, 0, 0), (2, 0, 0), (2, 0, 0)] [] σ2 :=
    zgo_of (A := .inl (zlw 9, _, _, σ2)) (by decide) (by decide) hLK rfl C ⟨by omega, by omega, G9⟩
  have G7 : zGo p l e R s m args below meth c Q K false 316 ad0 0 0 0 (zlw 7) [(8, 0, 0), (19, 0, 0), (2, 0, 0), (2, 0, 0), (2, 0, 0), (2, 0, 0), (2, 0, 0)] [(20, 1464, 0)] σ2 :=
    zgo_of (A := .inl (zlw 8, _, _, σ2)) (by decide) (by decide) hLK rfl C ⟨by omega, by omega, G8⟩
  have G6 : zGo p l e R s m args below meth c Q K false 316 ad0 0 0 0 (zlw 6) [(8, 0, 0), (19, 0, 0), (2, 0, 0), (2, 0, 0), (2, 0, 0), (2, 0, 0), (2, 0, 0)] [(20, 1464, 0), (20, 1464, 0)] (zsN σ1 27) :=
    zgo_call0 (is := zlw 7) (j2 := 14) (n2 := 1) (as := [(20, 1464, 0)]) (st1 := [(20, 1464, 0)]) (by decide) (by decide) hLK hst rfl hx2 C hNc (by omega) (by omega) G7
  have G5 : zGo p l e R s m args below meth c Q K false 316 ad0 0 0 0 (zlw 5) [(8, 0, 0), (19, 0, 0), (2, 0, 0), (2, 0, 0), (2, 0, 0), (2, 0, 0), (2, 0, 0)] [(20, 1464, 0)] (zsN σ1 27) :=
    zgo_of (A := .inl (zlw 6, _, _, zsN σ1 27)) (by decide) (by decide) hLK rfl C ⟨by show σ1.2.2.1 + 1 - 0 ≤ R.cells; omega, by show σ1.2.2.2.1 + 27 - 0 ≤ R.slots; omega, G6⟩
  have G4 : zGo p l e R s m args below meth c Q K false 316 ad0 0 0 0 (zlw 4) [(8, 0, 0), (19, 0, 0), (2, 0, 0), (2, 0, 0), (2, 0, 0), (2, 0, 0), (2, 0, 0)] [] σ1 :=
    zgo_of (A := .inl (zlw 5, [(8, 0, 0), (19, 0, 0), (2, 0, 0), (2, 0, 0), (2, 0, 0), (2, 0, 0), (2, 0, 0)], [(20, 1464, 0)], zsN σ1 27)) (by decide) (by decide) hLK ((show zst (zqq K false) (zmc 316) (zlw 4) [(8, 0, 0), (19, 0, 0), (2, 0, 0), (2, 0, 0), (2, 0, 0), (2, 0, 0), (2, 0, 0)] [] σ1 = znw 20 0 27 (zlw 5) [(8, 0, 0), (19, 0, 0), (2, 0, 0), (2, 0, 0), (2, 0, 0), (2, 0, 0), (2, 0, 0)] [] σ1 from rfl).trans (znw_eq (n := 1464) hn1 (by decide) rfl (Or.inl (by decide)))) C ⟨by show σ1.2.2.1 + 1 - 0 ≤ R.cells; omega, by show σ1.2.2.2.1 + 27 - 0 ≤ R.slots; omega, G5⟩
  have G3 : zGo p l e R s m args below meth c Q K false 316 ad0 0 0 0 (zlw 3) [(8, 0, 0), (2, 0, 0), (2, 0, 0), (2, 0, 0), (2, 0, 0), (2, 0, 0), (2, 0, 0)] [(19, 0, 0)] σ1 :=
    zgo_of (A := .inl (zlw 4, _, _, σ1)) (by decide) (by decide) hLK rfl C ⟨by omega, by omega, G4⟩
  have G2 : zGo p l e R s m args below meth c Q K false 316 ad0 0 0 0 (zlw 2) [(8, 0, 0), (2, 0, 0), (2, 0, 0), (2, 0, 0), (2, 0, 0), (2, 0, 0), (2, 0, 0)] [(19, 0, 0), (19, 0, 0)] (zsN zs0 17) :=
    zgo_call0 (is := zlw 3) (j2 := 13) (n2 := 1) (as := [(19, 0, 0)]) (st1 := [(19, 0, 0)]) (by decide) (by decide) hLK hst rfl hx1 C hNc (by omega) (by omega) G3
  have G1 : zGo p l e R s m args below meth c Q K false 316 ad0 0 0 0 (zlw 1) [(8, 0, 0), (2, 0, 0), (2, 0, 0), (2, 0, 0), (2, 0, 0), (2, 0, 0), (2, 0, 0)] [(19, 0, 0)] (zsN zs0 17) :=
    zgo_of (A := .inl (zlw 2, _, _, zsN zs0 17)) (by decide) (by decide) hLK rfl C ⟨by show 0 + 1 - 0 ≤ R.cells; omega, by show 0 + 17 - 0 ≤ R.slots; omega, G2⟩
  exact zgo_of (A := .inl (zlw 1, [(8, 0, 0), (2, 0, 0), (2, 0, 0), (2, 0, 0), (2, 0, 0), (2, 0, 0), (2, 0, 0)], [(19, 0, 0)], zsN zs0 17)) (by decide) (by decide) hLK ((show zst (zqq K false) (zmc 316) (zlw 0) [(8, 0, 0), (2, 0, 0), (2, 0, 0), (2, 0, 0), (2, 0, 0), (2, 0, 0), (2, 0, 0)] [] zs0 = znw 19 0 17 (zlw 1) [(8, 0, 0), (2, 0, 0), (2, 0, 0), (2, 0, 0), (2, 0, 0), (2, 0, 0), (2, 0, 0)] [] zs0 from rfl).trans (znw_eq (n := 0) rfl (by decide) rfl (Or.inl (by decide)))) C ⟨by show 0 + 1 - 0 ≤ R.cells; omega, by show 0 + 17 - 0 ≤ R.slots; omega, G1⟩
end ZB
