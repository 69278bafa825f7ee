/-! ## calls -/
theorem zcw_in {j : Nat} (h0 : 0 < j) (h : j < 316) : zcw j ∈ lw_tbl := List.mem_of_getElem? (zcw_lt316 j h h0)
theorem zcw_good (j : Nat) : goodWord (zcw j) = true := by
  unfold zcw
  split <;> rfl
theorem zws_in {j : Nat} (h0 : 0 < j) (h : j < 316) : GoodIn zGood (zws j) := by
  intro w hw
  have h2 : w ∈ lw_tbl ∧ goodWord w = true := by
    rcases List.mem_cons.mp hw with rfl | hw
    · exact ⟨zcw_in h0 h, zcw_good j⟩
    · exact List.mem_filter.mp hw
  exact ⟨zGood_mem h2, good_of_word h2.2⟩
def zmlc (j : Nat) : Bool := Nat.ble (zml j) 20 && Nat.ble (zmn j) (zml j) && ((zmh j).isEmpty || zMs j) && (match zMs j with
  | true => true
  | false => match Nat.beq (zrtl.getD j 0) 6 with
    | true => decide ((zmy j).cls = "java/lang/String")
    | false => Nat.ble 10 (zrtl.getD j 0) && Nat.blt (zrtl.getD j 0) 21 && decide (zON (zrtl.getD j 0 - 10) = (zmy j).cls))
theorem zmlc_1 : (List.range 315).all (fun i => zmlc (1 + i)) = true := by decide +kernel
theorem zmlc_ok {j : Nat} (h0 : 0 < j) (h : j < 316) : zmlc j = true := by
  have := List.all_eq_true.mp zmlc_1 (j - 1) (List.mem_range.mpr (by omega))
  rwa [show 1 + (j - 1) = j by omega] at this
theorem zml_ok {j : Nat} (h0 : 0 < j) (h : j < 316) : zml j ≤ 20 ∧ zmn j ≤ zml j := by
  have h1 := zmlc_ok h0 h
  unfold zmlc at h1
  rw [Bool.and_eq_true, Bool.and_eq_true, Bool.and_eq_true] at h1
  exact ⟨Nat.le_of_ble_eq_true h1.1.1.1, Nat.le_of_ble_eq_true h1.1.1.2⟩
theorem zML_any {o i j k : Nat} (h : zML.any (fun e => Nat.beq e.1 o && Nat.beq e.2.1 i && Nat.beq e.2.2.1 j && Nat.beq e.2.2.2.1 k) = true) :
    (Cond.methodLink (zcn o) i (zmy j) ∈ lw_tbl ∧ goodWord (Cond.methodLink (zcn o) i (zmy j)) = true) ∨ (Cond.methodLinkNest (zcn o) i (zmy j) "CyclicLines" ∈ lw_tbl ∧ (zmh j).isEmpty = true) := by
  have hN : zML.all (fun e => (zmh e.2.2.1).isEmpty || !e.2.2.2.2.1) = true := by decide +kernel
  obtain ⟨q, hq, h1⟩ := List.any_eq_true.mp h
  simp only [Bool.and_eq_true] at h1
  obtain ⟨⟨⟨e1, e2⟩, e3⟩, e4⟩ := h1
  have e1 := Nat.eq_of_beq_eq_true e1
  have e2 := Nat.eq_of_beq_eq_true e2
  have e3 := Nat.eq_of_beq_eq_true e3
  have h2 := List.all_eq_true.mp zML_ok q hq
  have h3 := List.all_eq_true.mp hN q hq
  subst e1 e2 e3
  unfold zMLc at h2
  split at h2
  · exact Or.inl (zgw_ok h2)
  · rename_i hb
    refine Or.inr ⟨zbw_ok h2, ?_⟩
    rw [hb] at h3
    simpa using h3
theorem zsplit_ok : ∀ (n : Nat) (st acc as st' : List zV), zsplit n st acc = some (as, st') → ∃ pre, st = pre ++ st' ∧ as = pre.reverse ++ acc ∧ pre.length = n := by
  intro n
  induction n with
  | zero =>
    intro st acc as st' h
    cases st <;> (simp only [zsplit, Option.some.injEq, Prod.mk.injEq] at h; obtain ⟨rfl, rfl⟩ := h; exact ⟨[], rfl, rfl, rfl⟩)
  | succ n ih =>
    intro st acc as st' h
    cases st with
    | nil => simp [zsplit] at h
    | cons v st =>
      simp only [zsplit] at h
      obtain ⟨pre, h1, h2, h3⟩ := ih st (v :: acc) as st' h
      exact ⟨v :: pre, by rw [h1]; rfl, by rw [h2]; simp, by simp [h3]⟩
theorem zRels_split {K : zCx} {ad : Nat → Nat} {n : Nat} : ∀ {pre st : List zV} {ws : List Value}, zRels K ad n (pre ++ st) ws → ∃ wp wr, ws = wp ++ wr ∧ zRels K ad n pre wp ∧ zRels K ad n st wr := by
  intro pre
  induction pre with
  | nil => intro st ws h; exact ⟨[], ws, rfl, trivial, h⟩
  | cons v pre ih =>
    intro st ws h
    obtain ⟨w, ws', rfl, h1, h2⟩ := zRels_cons h
    obtain ⟨wp, wr, rfl, h3, h4⟩ := ih h2
    exact ⟨w :: wp, wr, rfl, ⟨h1, h3⟩, h4⟩
theorem zRels_rev {K : zCx} {ad : Nat → Nat} {n : Nat} : ∀ {pre : List zV} {wp : List Value}, zRels K ad n pre wp → zRels K ad n pre.reverse wp.reverse := by
  intro pre
  induction pre with
  | nil => intro wp h; rw [zRels_nil h]; trivial
  | cons v pre ih =>
    intro wp h
    obtain ⟨w, ws', rfl, h1, h2⟩ := zRels_cons h
    rw [List.reverse_cons, List.reverse_cons]
    exact zRels_app (ih h2) ⟨h1, trivial⟩
section ZL
variable {p : Program} {l : Launch} {e : Env} {R : Room} {s : State} {m : MethodId} {args : Array Value} {below : List Frame} {meth : Method} {c : Code} {Q : State → Prop} {K : zCx} {ph : Bool} {j d : Nat} {ad0 : Nat → Nat} {n0 c0 s0 : Nat}
variable {is : zL} {ls st : List zV} {σ : zS} {ad : Nat → Nat} {H : Heap} {locs : List Loc} {lm : Array Slot} {sm : List Value} {pc t : Nat}
/-- behind a call -/
theorem zrun_use {x : zV × zS} {a : Array Value} {rest : List Value} (hrun : vx_Run p l e R s m args below meth c H locs (σ.2.2.1 - c0) (σ.2.2.2.1 - s0) (x.2.2.2.1 - σ.2.2.1) (x.2.2.2.2.1 - σ.2.2.2.1) (F0 m pc lm sm) rest (zQc K ph ad σ.2.2.2.2.1 x a) (zXC K ph ad σ.2.2.2.2.1 x) K.A) (hS : va_S K.A s.heap H locs) (hge : σ.2.2.1 ≤ x.2.2.2.1 ∧ σ.2.2.2.1 ≤ x.2.2.2.2.1) (hc : c0 ≤ σ.2.2.1) (hs : s0 ≤ σ.2.2.2.1)
    (kk : ∀ (ad' : Nat → Nat) (v : Option Value) (H1 : Heap) (locs1 : List Loc), zag ad ad' σ.2.2.2.2.1 → zRet K ad' x.2.2.2.2.2.1 x.1 v → zPic K ph ad' x.2 H1 → va_S K.A s.heap H1 locs1 → σ.2.2.2.2.1 ≤ x.2.2.2.2.2.1 → W p l e R s m args below meth c H1 locs1 (x.2.2.2.1 - c0) (x.2.2.2.2.1 - s0) Q (F0 m (pc + 3) lm (v.toList ++ rest)))
    (kx : 100 ≤ x.1.1 ∧ x.1.1 < 105 → ∀ (ad' : Nat → Nat) (q : Addr) (ce : Cell) (H1 : Heap) (locs1 : List Loc), zag ad ad' σ.2.2.2.2.1 → zPic K ph ad' x.2 H1 → va_S K.A s.heap H1 locs1 → σ.2.2.2.2.1 ≤ x.2.2.2.2.2.1 → H1[q]? = some ce → ce.vm = .none → s.vm.findClass (zExN x.1.1) = some ce.cls → vx_W p l e R s m args below meth c H1 locs1 (x.2.2.2.1 - c0) (x.2.2.2.2.1 - s0) Q (F0 m pc lm rest) q) :
    W p l e R s m args below meth c H locs (σ.2.2.1 - c0) (σ.2.2.2.1 - s0) Q (F0 m pc lm sm) := by
  have ec : σ.2.2.1 - c0 + (x.2.2.2.1 - σ.2.2.1) = x.2.2.2.1 - c0 := by omega
  have es : σ.2.2.2.1 - s0 + (x.2.2.2.2.1 - σ.2.2.2.1) = x.2.2.2.2.1 - s0 := by omega
  intro T hT X
  rcases hrun T hT X with ⟨v, st₀, t, T', L, h0, X', hL, e1, e2, ⟨ad', v', hv, hag', hret, hpic, hF, hn'⟩, hst⟩ | ⟨q, st₀, t, T', L, E, ce, h0, X', hL, e1, e2, ⟨h100, rfl, ⟨ad', hag', hpic⟩, hF, hn'⟩, hce, hcv, hcl, hst⟩
  · cases hv
    obtain ⟨k1, k2, k3⟩ := vx_keep h0 e1 hS (fun q _ h => h) (fun q h => h) hL hF
    rw [ec, es] at X'
    obtain ⟨t2, a1, b1⟩ := kk ad' v T'.heap (locs ++ L) hag' hret (by rw [e1]; exact hpic) k3 hn' T' rfl X'
    exact ⟨t2, hst t2 a1, b1⟩
  · obtain ⟨k1, k2, k3⟩ := vx_keep h0 e1 hS (fun q _ h => h) (fun q h => h) hL hF
    rw [ec, es] at X'
    obtain ⟨t2, a1, b1⟩ := kx h100 ad' q ce T'.heap (locs ++ L) hag' (by rw [e1]; exact hpic) k3 hn' (by rw [e1]; exact hce) hcv hcl T' rfl X'
    exact ⟨t2, hst.trans a1, b1⟩
/-- the three kinds of calls -/
def zkind (j2 o i : Nat) (r : Instr) : Prop :=
  (r = .invokevirtual i ∧ zMs j2 = false ∧ (zmy j2).name ≠ "<init>" ∧ zML.any (fun e => Nat.beq e.1 o && Nat.beq e.2.1 i && Nat.beq e.2.2.1 j2 && Nat.beq e.2.2.2.1 0) = true) ∨
  (r = .invokestatic i ∧ zMs j2 = true ∧ zML.any (fun e => Nat.beq e.1 o && Nat.beq e.2.1 i && Nat.beq e.2.2.1 j2 && Nat.beq e.2.2.2.1 1) = true) ∨
  (r = .invokespecial i ∧ zMs j2 = false ∧ (zmy j2).name = "<init>" ∧ zmr j2 = none ∧ zML.any (fun e => Nat.beq e.1 o && Nat.beq e.2.1 i && Nat.beq e.2.2.1 j2 && Nat.beq e.2.2.2.1 2) = true)
theorem zs_call {j2 i : Nat} {r : Instr} {as st' : List zV} {x : zV × zS} (h0 : 0 < j2) (h1 : j2 < 316) (hk : zkind j2 (zmo j) i r) (hd : decode (zmb j) pc = .ok (r, 3)) (hsp : zsplit (zmn j2) st [] = some (as, st')) (hst4 : st'.length ≤ 4) (hrc : zrc (zrtl.getD j2 0) as = true)
    (hM : zMet l K ph j2 d as σ x) (hge : σ.2.2.1 ≤ x.2.2.2.1 ∧ σ.2.2.2.1 ≤ x.2.2.2.2.1) (hNc : zNcs s) (hRc : x.2.2.2.1 - c0 ≤ R.cells) (hRs : x.2.2.2.2.1 - s0 ≤ R.slots)
    (C : zAct p l R s m args meth c K j (d + 1)) (hP : zPic K ph ad σ H) (hS : va_S K.A s.heap H locs) (hL : zLoc K ad σ.2.2.2.2.1 lm (zml j) ls) (hR : zRels K ad σ.2.2.2.2.1 st sm) (hc : c0 ≤ σ.2.2.1) (hs : s0 ≤ σ.2.2.2.1)
    (kk : ∀ (ad' : Nat → Nat) (v : Option Value) (rest : List Value) (H1 : Heap) (locs1 : List Loc), zag ad ad' σ.2.2.2.2.1 → zRet K ad' x.2.2.2.2.2.1 x.1 v → zRels K ad σ.2.2.2.2.1 st' rest → zPic K ph ad' x.2 H1 → va_S K.A s.heap H1 locs1 → σ.2.2.2.2.1 ≤ x.2.2.2.2.2.1 → W p l e R s m args below meth c H1 locs1 (x.2.2.2.1 - c0) (x.2.2.2.2.1 - s0) Q (F0 m (pc + 3) lm (v.toList ++ rest)))
    (kx : 100 ≤ x.1.1 ∧ x.1.1 < 105 → ∀ (ad' : Nat → Nat) (q : Addr) (ce : Cell) (rest : List Value) (H1 : Heap) (locs1 : List Loc), zag ad ad' σ.2.2.2.2.1 → zPic K ph ad' x.2 H1 → va_S K.A s.heap H1 locs1 → σ.2.2.2.2.1 ≤ x.2.2.2.2.2.1 → H1[q]? = some ce → ce.vm = .none → s.vm.findClass (zExN x.1.1) = some ce.cls → vx_W p l e R s m args below meth c H1 locs1 (x.2.2.2.1 - c0) (x.2.2.2.2.1 - s0) Q (F0 m pc lm rest) q) :
    W p l e R s m args below meth c H locs (σ.2.2.1 - c0) (σ.2.2.2.1 - s0) Q (F0 m pc lm sm) := by
  obtain ⟨hx, hb, hml, hown, hts, hcst, -, -, -, -, hfr, hlo⟩ := C
  obtain ⟨pre, rfl, rfl, hlen⟩ := zsplit_ok _ _ _ _ _ hsp
  rw [List.append_nil] at hM hrc
  obtain ⟨wp, wr, rfl, hRp, hRr⟩ := zRels_split hR
  have hRv := zRels_rev hRp
  have hwl : wp.length = zmn j2 := by rw [← zRels_len hRp, hlen]
  have hcat := zcat_sum hRr
  have hml2 := zml_ok h0 h1
  have hmc := zmlc_ok h0 h1
  unfold zmlc at hmc
  rw [Bool.and_eq_true, Bool.and_eq_true, Bool.and_eq_true] at hmc
  have hmd := zMd_ok h0 h1
  unfold zMd at hmd
  rw [Bool.and_eq_true, Bool.and_eq_true, Bool.and_eq_true] at hmd
  obtain ⟨⟨⟨d1, d2⟩, d3⟩, d4⟩ := hmd
  have d1 := of_decide_eq_true d1
  have d2 := of_decide_eq_true d2
  have htg : ∀ w ∈ zGood, w.before args s = true := fun w h => hts w (List.mem_filter.mp h).1 (List.mem_filter.mp h).2
  have hini := zgw_ok (zMi_ok h0 h1)
  have hini2 := hts _ hini.1 hini.2
  have hmk := zMk_ok h0 h1
  unfold zMk at hmk
  have hroom : (zrm d (x.2.2.2.1 - σ.2.2.1) (x.2.2.2.2.1 - σ.2.2.2.1)).frames + 1 ≤ R.frames ∧ 8 + (zml j2 + 11) + (zrm d (x.2.2.2.1 - σ.2.2.1) (x.2.2.2.2.1 - σ.2.2.2.1)).locals ≤ R.locals := by
    show 16 + d + 1 ≤ R.frames ∧ 8 + (zml j2 + 11) + (300 + 40 * d) ≤ R.locals
    omega
  have hf : σ.2.2.1 - c0 + (x.2.2.2.1 - σ.2.2.1) ≤ R.cells ∧ σ.2.2.2.1 - s0 + (x.2.2.2.2.1 - σ.2.2.2.1) ≤ R.slots := by omega
  have hMv := hM ad
  have hPc : ∀ U : State, U.heap = H → s.WarmedH U.vm → zPc K ph ad σ pre.reverse wp.reverse.toArray U := fun U hU hW => ⟨wp.reverse, rfl, hRv, by rw [hU]; exact hP, hcst.moved hU hS hW, fun a b ha hb hab => va_Nc.moved hW.alike (hNc a b ha hb hab)⟩
  have S : CallFix p m c (zmb j) (zml j) s args zGood (zcn (zmo j)) := ⟨hx, hb, hml, hown, htg⟩
  have hW8 : 2 * (F0 m pc lm (wp ++ wr)).monitorRoom + (wr.map fun v => v.category).sum ≤ 8 := by
    show 2 * 0 + _ ≤ 8
    omega
  have huse : ∀ {a : Array Value}, vx_Run p l e R s m args below meth c H locs (σ.2.2.1 - c0) (σ.2.2.2.1 - s0) (x.2.2.2.1 - σ.2.2.1) (x.2.2.2.2.1 - σ.2.2.2.1) (F0 m pc lm (wp ++ wr)) wr (zQc K ph ad σ.2.2.2.2.1 x a) (zXC K ph ad σ.2.2.2.2.1 x) K.A → W p l e R s m args below meth c H locs (σ.2.2.1 - c0) (σ.2.2.2.1 - s0) Q (F0 m pc lm (wp ++ wr)) := fun hrun =>
    zrun_use hrun hS hge hc hs (fun ad' v H1 locs1 g1 g2 g3 g4 g5 => kk ad' v wr H1 locs1 g1 g2 hRr g3 g4 g5) (fun hx100 ad' q ce H1 locs1 g1 g2 g3 g4 g5 g6 g7 => kx hx100 ad' q ce wr H1 locs1 g1 g2 g3 g4 g5 g6 g7)
  rcases hk with ⟨rfl, k1, k2, k3⟩ | ⟨rfl, k1, k3⟩ | ⟨rfl, k1, k2, k4, k3⟩
  · rw [k1] at hmk d1 hmc
    have hmk2 : (zgw (zMp.getD j2 (0, 0, 0, 0)).2.2.1 (.instanceMethod (zmy j2)) && (decide ((zmy j2).name = "<init>") || zgw (zMp.getD j2 (0, 0, 0, 0)).2.2.2 (.selects (zmy j2).cls (zmy j2) (zmy j2)))) = true := hmk
    rw [Bool.and_eq_true, Bool.or_eq_true] at hmk2
    have hin := zgw_ok hmk2.1
    have hse := zgw_ok (hmk2.2.resolve_left (fun z => k2 (of_decide_eq_true z)))
    have hhe : (zmh j2).isEmpty = true := by
      have := hmc.1.2
      simpa using this
    have hcw : zws j2 = Cond.code (zmy j2) (zmb j2) (zml j2) (zmr j2) :: zGood := by
      unfold zws zcw
      rw [hhe]
    -- what it is called on
    have hrcv : ∃ (b : Addr) (As : List Value), wp.reverse = .ref b :: As ∧ ∃ cellB : Cell, H[b]? = some cellB ∧ cellB.vm.isStatics = false ∧ s.vm.findClass (zmy j2).cls = some cellB.cls := by
      have hm2 := hmc.2
      generalize hz : zrtl.getD j2 0 = u at hm2 hrc
      cases u with
      | zero =>
        have z9 : (false : Bool) = true := hm2
        cases z9
      | succ u =>
        unfold zrc at hrc
        split at hrc
        · rename_i z; cases z
        · rename_i u2 z
          cases z
          split at hrc
          · rename_i t9 x9 y9 l9 hl9
            have ht9 := Nat.eq_of_beq_eq_true hrc
            subst ht9
            rw [hl9] at hRv
            obtain ⟨w, ws', hw, r1, r2⟩ := zRels_cons hRv
            by_cases h6 : u + 1 = 6
            · rw [h6] at r1 hm2
              obtain ⟨rfl, q1, q2⟩ := r1
              have ecls : (zmy j2).cls = "java/lang/String" := of_decide_eq_true hm2
              obtain ⟨b9, rfl⟩ : ∃ b : Nat, x9 = (b : Int) := ⟨x9.toNat, by omega⟩
              obtain ⟨cell, g1, g2, g3, g4⟩ := ((hcst.2.2.2.1 b9 (by omega)).1).kept hS.2.1
              exact ⟨_, ws', hw, cell, by rw [Int.toNat_natCast]; exact g1, g2, by rw [ecls]; exact g3⟩
            · have hb6 : Nat.beq (u + 1) 6 = false := by
                cases hb : Nat.beq (u + 1) 6 with
                | false => rfl
                | true => exact absurd (Nat.eq_of_beq_eq_true hb) h6
              rw [hb6] at hm2
              have hm3 : (Nat.ble 10 (u + 1) && Nat.blt (u + 1) 21 && decide (zON (u + 1 - 10) = (zmy j2).cls)) = true := hm2
              rw [Bool.and_eq_true, Bool.and_eq_true] at hm3
              have q1 := Nat.le_of_ble_eq_true hm3.1.1
              have q2 : u + 1 + 1 ≤ 21 := Nat.le_of_ble_eq_true hm3.1.2
              have q3 := of_decide_eq_true hm3.2
              obtain ⟨rfl, -, -, z0, zn, zst, -⟩ := (zRel_o q1 (by omega)).mp r1
              have hat := zWS_at (K := K) (ph := ph) (ad := ad) zn
              rw [zent_o zst (by omega)] at hat
              obtain ⟨cell, g1, g2, g3⟩ := va_recv hcst.1 hP.1 (zCl_at (show u + 1 - 10 < 11 by omega)) hat
              exact ⟨_, ws', hw, cell, g1, g2, by rw [← q3]; exact g3⟩
          · cases hrc
    obtain ⟨b, As, hAs, hcell⟩ := hrcv
    have hwp : wp = As.reverse ++ [Value.ref b] := by
      rw [← List.reverse_reverse wp, hAs, List.reverse_cons]
    have hAl : As.length = zmn j2 - 1 := by rw [← hwl, hwp]; simp
    have hstk : (F0 m pc lm (wp ++ wr)).stack = As.reverse ++ .ref b :: wr := by
      show wp ++ wr = _
      rw [hwp]
      simp
    have hPre : PreV s H (zmy j2).cls b (zPc K ph ad σ pre.reverse) As := ⟨zPc_blind, hcell, fun U hU hW => by rw [← hAs]; exact hPc U hU hW⟩
    rcases zML_any k3 with hl | hl
    · exact huse (vx_runV S hMv ⟨callB_of (zmn j2 - 1) htg (zws_in h0 h1) hcw rfl rfl hini2 (hts _ hl.1 hl.2) ⟨d2.1, d2.2, d1⟩ hroom, hts _ hin.1 hin.2, hts _ hse.1 hse.2⟩ hPre rfl hAl (hL.1.trans rfl) hstk hW8 hd hf)
    · exact huse (vx_runVN S hMv ⟨va_cnB (zmn j2 - 1) htg (zws_in h0 h1) hcw rfl rfl (hcst.2.1 _ hl.1 rfl) hini2 ⟨d2.1, d2.2, d1⟩ hroom, hts _ hin.1 hin.2, hts _ hse.1 hse.2⟩ hPre rfl hAl (hL.1.trans rfl) hstk hW8 hd hf)
  · rw [k1] at hmk d1
    have hstc := zgw_ok (show zgw (zMp.getD j2 (0, 0, 0, 0)).2.2.1 (.static (zmy j2)) = true from hmk)
    have hstk : (F0 m pc lm (wp ++ wr)).stack = wp.reverse.reverse ++ wr := by
      show wp ++ wr = _
      rw [List.reverse_reverse]
    have hAl : wp.reverse.length = zmn j2 := by rw [List.length_reverse, hwl]
    have hPre : PreS s H (zPc K ph ad σ pre.reverse) wp.reverse := ⟨zPc_blind, hPc⟩
    cases hhe : (zmh j2).isEmpty with
    | true =>
      have hcw : zws j2 = Cond.code (zmy j2) (zmb j2) (zml j2) (zmr j2) :: zGood := by
        unfold zws zcw
        rw [hhe]
      rcases zML_any k3 with hl | hl
      · exact huse (vx_runS S hMv ⟨callB_of (zmn j2) htg (zws_in h0 h1) hcw rfl rfl hini2 (hts _ hl.1 hl.2) ⟨d2.1, d2.2, d1⟩ hroom, hts _ hstc.1 hstc.2⟩ hPre rfl hAl (hL.1.trans rfl) hstk hW8 hd hf)
      · exact huse (vx_runSN S hMv ⟨va_cnB (zmn j2) htg (zws_in h0 h1) hcw rfl rfl (hcst.2.1 _ hl.1 rfl) hini2 ⟨d2.1, d2.2, d1⟩ hroom, hts _ hstc.1 hstc.2, trivial⟩ hPre rfl hAl (hL.1.trans rfl) hstk hW8 hd hf)
    | false =>
      have hcw : zws j2 = Cond.codeWith (zmy j2) (zmb j2) (zml j2) (zmr j2) (zmh j2) :: zGood := by
        unfold zws zcw
        rw [hhe]
      rcases zML_any k3 with hl | hl
      · refine huse (vx_runSX S hMv (vx_cwSW (Ts := zGood) (zmn j2) htg (fun w hw => ?_) hcw rfl rfl ⟨d2.1, d2.2, d1⟩ hroom) hPre rfl hAl (hL.1.trans rfl) hstk hW8 hd hf)
        have hw2 : w = Cond.methodLink (zcn (zmo j)) i (zmy j2) ∨ w = Cond.static (zmy j2) ∨ w = Cond.initialized (zmy j2).cls ∨ w ∈ zws j2 := by
          simpa [va_wsS] using hw
        rcases hw2 with rfl | rfl | rfl | hw
        · exact ⟨zGood_mem hl, good_of_word hl.2⟩
        · exact ⟨zGood_mem hstc, good_of_word hstc.2⟩
        · exact ⟨zGood_mem hini, good_of_word hini.2⟩
        · exact zws_in h0 h1 w hw
      · rw [hl.2] at hhe
        cases hhe
  · rw [k1] at hmk d1 hmc
    have hmk2 : (zgw (zMp.getD j2 (0, 0, 0, 0)).2.2.1 (.instanceMethod (zmy j2)) && (decide ((zmy j2).name = "<init>") || zgw (zMp.getD j2 (0, 0, 0, 0)).2.2.2 (.selects (zmy j2).cls (zmy j2) (zmy j2)))) = true := hmk
    rw [Bool.and_eq_true] at hmk2
    have hin := zgw_ok hmk2.1
    have hhe : (zmh j2).isEmpty = true := by
      have := hmc.1.2
      simpa using this
    have hcw : zws j2 = Cond.code (zmy j2) (zmb j2) (zml j2) none :: zGood := by
      unfold zws zcw
      rw [hhe, k4]
    have hrcv : ∃ (b : Addr) (As : List Value), wp.reverse = .ref b :: As := by
      have hm2 := hmc.2
      generalize hz : zrtl.getD j2 0 = u at hm2 hrc
      cases u with
      | zero =>
        have z9 : (false : Bool) = true := hm2
        cases z9
      | succ u =>
        unfold zrc at hrc
        split at hrc
        · rename_i z; cases z
        · rename_i u2 z
          cases z
          split at hrc
          · rename_i t9 x9 y9 l9 hl9
            have ht9 := Nat.eq_of_beq_eq_true hrc
            subst ht9
            rw [hl9] at hRv
            obtain ⟨w, ws', hw, r1, r2⟩ := zRels_cons hRv
            by_cases h6 : u + 1 = 6
            · rw [h6] at r1
              obtain ⟨rfl, q1, q2⟩ := r1
              exact ⟨_, ws', hw⟩
            · have hb6 : Nat.beq (u + 1) 6 = false := by
                cases hb : Nat.beq (u + 1) 6 with
                | false => rfl
                | true => exact absurd (Nat.eq_of_beq_eq_true hb) h6
              rw [hb6] at hm2
              have hm3 : (Nat.ble 10 (u + 1) && Nat.blt (u + 1) 21 && decide (zON (u + 1 - 10) = (zmy j2).cls)) = true := hm2
              rw [Bool.and_eq_true, Bool.and_eq_true] at hm3
              have q1 := Nat.le_of_ble_eq_true hm3.1.1
              have q2 : u + 1 + 1 ≤ 21 := Nat.le_of_ble_eq_true hm3.1.2
              obtain ⟨rfl, -, -, z0, zn, zst, -⟩ := (zRel_o q1 (by omega)).mp r1
              exact ⟨_, ws', hw⟩
          · cases hrc
    obtain ⟨b, As, hAs⟩ := hrcv
    have hwp : wp = As.reverse ++ [Value.ref b] := by
      rw [← List.reverse_reverse wp, hAs, List.reverse_cons]
    have hAl : As.length = zmn j2 - 1 := by rw [← hwl, hwp]; simp
    have hstk : (F0 m pc lm (wp ++ wr)).stack = As.reverse ++ .ref b :: wr := by
      show wp ++ wr = _
      rw [hwp]
      simp
    have hPre : PreS s H (zPc K ph ad σ pre.reverse) (.ref b :: As) := ⟨zPc_blind, fun U hU hW => by rw [← hAs]; exact hPc U hU hW⟩
    rcases zML_any k3 with hl | hl
    · exact huse (vx_runI S hMv ⟨callB_of (zmn j2 - 1) htg (zws_in h0 h1) hcw rfl rfl hini2 (hts _ hl.1 hl.2) ⟨d2.1, d2.2, d1⟩ hroom, k2, hts _ hin.1 hin.2⟩ hPre rfl hAl (hL.1.trans rfl) hstk hW8 hd hf)
    · exact huse (vx_runIN S hMv ⟨va_cnB (zmn j2 - 1) htg (zws_in h0 h1) hcw rfl rfl (hcst.2.1 _ hl.1 rfl) hini2 ⟨d2.1, d2.2, d1⟩ hroom, k2, hts _ hin.1 hin.2⟩ hPre rfl hAl (hL.1.trans rfl) hstk hW8 hd hf)
end ZL
