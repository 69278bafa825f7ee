/-- what is owed of the runs of the law's loop -/
def zOwed : Prop := ∀ (L : Nat) (xs : Nat → Int32), L ≤ 3072 → ∃ (n : Nat) (y : Int) (σf : zS), zX (true, (L : Int), fun i => (xs i.toNat).toInt) n 1900 (zmc 316) (zlw 13) zlaw_ls [] zBeg3 = some ((0, 1, y), σf) ∧ σf.2.2.1 ≤ 601024 ∧ σf.2.2.2.1 ≤ 7293034
theorem zlaw_end {p : Program} {l : Launch} {e : Env} {s : State} {m : MethodId} {below : List Frame} {meth : Method} {c : Code} {K : zCx} {ph : Bool} {d b : Nat} {ad0 : Nat → Nat} {y : Int} {σf : zS} {is : zL} {ls st : List zV} {σ : zS} (C : zAct p l room_1 s m #[Value.ref b] meth c K 316 d) (hbase : K.base = s.heap.size) (hc1 : σf.2.2.1 ≤ 601024) (hs1 : σf.2.2.2.1 ≤ 7293034) (hcode : c.code = code) (hret : meth.sig.returnType = ret)
    (hE : zEnds (zmc 316) is st σ (0, 1, y) σf) : zGo p l e room_1 s m #[Value.ref b] below meth c (lw_Z below #[Value.ref b] s) K ph 316 ad0 0 0 0 is ls st σ := by
  intro ad H locs lm sm pc t hag hi hpc hP hS hL hR hn hc hs
  obtain ⟨hx, hb, hml, hown, hts, hcst, hst, hlk, -⟩ := C
  rcases hE with ⟨k, is', rfl, h100, rfl, e, rfl⟩ | ⟨is', x, y1, rfl, rfl, e, rfl, hk⟩ | ⟨is', x, y1, rfl, rfl, e, rfl⟩ | ⟨is', u, x, y1, rfl, rfl, e, rfl, hu⟩ | ⟨is', rfl, rfl, e, rfl⟩
  · have e1 : 0 = k := congrArg (fun v : zV => v.1) e
    omega
  · have e1 : 1 = x := congrArg (fun v : zV => v.2.1) e
    subst e1
    obtain ⟨hat, hi2, len, r, e2, e3, hpc2⟩ := zpos (by decide) (by decide) hi hpc
    obtain ⟨rfl, rfl⟩ := zk_ireturn e3
    obtain ⟨w1, ws1, rfl, ⟨rfl, r1⟩, hR1⟩ := zRels_cons hR
    cases zRels_nil hR1
    refine va_forget (fun q hq => ?_) (W.widen (k := 601024) (n := 7293034) (by omega) (by omega) ?_)
    · have := hS.2.2 q hq
      have h9 : K.base ≤ q.base := this
      omega
    · exact lw_ret hx hcode hret hlk (by rw [← hb, hcode] at e2; exact e2)
  · have e1 : 0 = 1 := congrArg (fun v : zV => v.1) e
    omega
  · have e1 : 0 = u := congrArg (fun v : zV => v.1) e
    omega
  · have e1 : 0 = 9 := congrArg (fun v : zV => v.1) e
    omega
theorem zstk (l : Launch) (h : l.flags = flags0) : l.stackTraces = false := by
  unfold Launch.stackTraces
  rw [h]
  decide
theorem whole_of (HF : zOwed) {p : Program} {e : Env} {s : State} {m : MethodId} {below : List Frame} {meth : Method} {c : Code} (l : Launch) (hflags : l.flags = flags0) {b L : Nat} {xs : Nat → Int32} (hL : L ≤ 3072) (C0 : lw_At p s m meth c b L xs) : W p l e room_1 s m #[Value.ref b] below meth c s.heap [] 0 0 (lw_Z below #[Value.ref b] s) (entryFrame m ([Value.ref b] : List Value).toArray 7) := by
  obtain ⟨K, hKb, hKL, hKx, hKbase, hcst, hNc⟩ := zentry C0
  obtain ⟨hx, hb, hr, hml, hown, hts, hX, hbl, hlocks, hgv⟩ := id C0
  have hst := zstk l hflags
  have hLK : K.L ≤ 3072 := by rw [hKL]; exact hL
  have C : ∀ d, d ≤ 1900 → zAct p l room_1 s m #[Value.ref b] meth c K 316 d := fun d hd =>
    ⟨hx, hb, hml, hown, fun w hw _ => hts w hw, hcst, hst, hlocks, hr, fun h => absurd h (by decide +kernel), by show 16 + d ≤ 2048; omega, by show 300 + 40 * d ≤ 84000; omega⟩
  obtain ⟨n, y, σf, hrun, hcf, hsf⟩ := HF K.L K.xs hLK
  have hrun : zX (zqq K true) n 1900 (zmc 316) (zlw 13) zlaw_ls [] zBeg3 = some ((0, 1, y), σf) := hrun
  have hgr := zX_gr _ _ _ _ hrun
  have G13 : ∀ ad0, zGo p l e room_1 s m #[Value.ref b] below meth c (lw_Z below #[Value.ref b] s) K true 316 ad0 0 0 0 (zlw 13) zlaw_ls [] zBeg3 := fun ad0 =>
    zMain hLK hst n 1900 316 (by decide) (by decide) p e room_1 s m #[Value.ref b] below meth c _ ad0 0 0 0 _ _ _ _ _ hrun (C 1900 (Nat.le_refl _)) hNc (Or.inl ⟨rfl, by show 0 < 100; omega⟩) (by show σf.2.2.1 - 0 ≤ 601024; omega) (by show σf.2.2.2.1 - 0 ≤ 7293034; omega)
      (fun is ls st σ hE => zlaw_end (C 1900 (Nat.le_refl _)) hKbase hcf hsf hb hr hE) (fun h => absurd h.1 (by show ¬ 100 ≤ 0; omega))
  have G13f : ∀ ad0, zGo p l e room_1 s m #[Value.ref b] below meth c (lw_Z below #[Value.ref b] s) K false 316 ad0 0 0 0 (zlw 13) zlaw_ls [] (zsN zBeg2 1) := fun ad0 ad H locs lm sm pc t hag hi hpc hP hS hL hR hn hc hs =>
    G13 ad0 ad H locs lm sm pc t hag hi hpc (zPic_up (σ := zBeg3) hP rfl (fun a ha => zflg_ok ha)) hS hL hR hn hc hs
  obtain ⟨n1, hx1⟩ := zD_iff.mp (zrunX (K.L, fun i => (K.xs i.toNat).toInt))
  have hx2 := zrunM (K.L, fun i => (K.xs i.toNat).toInt)
  have G0 := zlaw_go (Q := lw_Z below #[Value.ref b] s) (e := e) (below := below) (ad0 := fun _ => 0) hLK hst (C 13 (by omega)) hNc (σ1 := zBeg1) (σ2 := zBeg2) hx1 rfl hx2 rfl (by show 1479 ≤ 601024; omega) (by show 49774 ≤ 7293034; omega) (G13f _)
  have hRel : zRels K (fun _ => 0) 0 [(8, 0, 0)] [Value.ref b] := ⟨by show Value.ref b = .ref K.b; rw [hKb], trivial⟩
  have hL0 := zLoc_entry (nL := 7) hRel rfl (by decide)
  rw [lg_entry_eq]
  have hg2 := G0 (fun _ => 0) s.heap [] _ [] 0 0 (zag.rf _ _) rfl (Or.inr (zpc0 (by decide) (by decide))) zPic_0 ⟨Nat.le_refl _, fun _ _ _ => rfl, fun z hz => by cases hz⟩ hL0 trivial (Nat.le_refl _) (Nat.le_refl _) (Nat.le_refl _)
  exact hg2
