/-! ## an object or a row more -/
def zOiL : List (Nat × Nat) := [(113, 228), (114, 365), (109, 144), (111, 184), (116, 454), (115, 426), (112, 190), (117, 473), (110, 177), (108, 136), (118, 1518)]
theorem zOi_all : (List.range 11).all (fun ci => zgw (zOiL.getD ci (0, 0)).1 (.initialized (zON ci)) && zgw (zOiL.getD ci (0, 0)).2 (.instantiable (zON ci) (zNF ci))) = true := by decide +kernel
theorem zOi_ok {ci : Nat} (h : ci < 11) : (Cond.initialized (zON ci) ∈ lw_tbl ∧ goodWord (Cond.initialized (zON ci)) = true) ∧ (Cond.instantiable (zON ci) (zNF ci) ∈ lw_tbl ∧ goodWord (Cond.instantiable (zON ci) (zNF ci)) = true) := by
  have h1 := List.all_eq_true.mp zOi_all ci (List.mem_range.mpr h)
  rw [Bool.and_eq_true] at h1
  exact ⟨zgw_ok h1.1, zgw_ok h1.2⟩
def zNS (σ : zS) (k : Nat) : zS := (σ.1, σ.2.1, σ.2.2.1 + 1, σ.2.2.2.1 + k, σ.2.2.2.2.1 + 1, σ.2.2.2.2.2)
theorem zPic_push {K : zCx} {ad : Nat → Nat} {σ : zS} {q k : Nat} {e : va_E} {H H1 : Heap} (hP : zPic K false ad σ H) (h14 : σ.2.2.2.2.1 < 1479) (he : ∀ ad' : Nat → Nat, zent K false ad' (zNS σ k) σ.2.2.2.2.1 = e)
    (g1 : va_P K.D zCl (zWS K false ad σ ++ [(q, e)]) H1) (g2 : va_D K.A (zWS K false ad σ ++ [(q, e)])) : ∃ ad', zag ad ad' σ.2.2.2.2.1 ∧ ad' σ.2.2.2.2.1 = q ∧ zPic K false ad' (zNS σ k) H1 := by
  obtain ⟨-, -, h1, h2, h3, h4, h5, h6, h7⟩ := hP
  refine ⟨fun b => if b = σ.2.2.2.2.1 then q else ad b, fun b hb => if_neg (by omega), if_pos rfl, ?_⟩
  generalize had : (fun b => if b = σ.2.2.2.2.1 then q else ad b) = ad'
  have hag : zag ad ad' σ.2.2.2.2.1 := fun b hb => by rw [← had]; exact if_neg (by omega)
  have hq : ad' σ.2.2.2.2.1 = q := by rw [← had]; exact if_pos rfl
  have ho : ∀ b : Nat, b < σ.2.2.2.2.1 → zent K false ad' (zNS σ k) b = zent K false ad σ b := by
    intro b hb
    have hz := zST_ok (show b < 1479 by omega)
    have e1 : zST b < 30 → ∀ k' : Nat, zfv K false ad' (zNS σ k) b k' = zfv K false ad σ b k' := by
      intro hs k'
      unfold zfv
      cases hv : zfd (zST b - 10) k' b (zYT b) with
      | none => rfl
      | some v =>
        dsimp only
        by_cases hi : σ.2.2.2.2.2 b k' = true
        · have h8 := (h7 b k' v hi).1 hs hv
          rw [if_pos (show (false || (zNS σ k).2.2.2.2.2 b k') = true from hi), if_pos (show (false || σ.2.2.2.2.2 b k') = true from hi), hag _ h8]
        · rw [if_neg (show ¬ (false || (zNS σ k).2.2.2.2.2 b k') = true from hi), if_neg (show ¬ (false || σ.2.2.2.2.2 b k') = true from hi)]
    by_cases c1 : zST b < 30
    · rw [zent_o rfl c1, zent_o rfl c1]
      congr 2
      apply List.map_congr_left
      intro k' _
      exact e1 c1 k'
    · by_cases c2 : zST b = 30
      · rw [zent_i c2, zent_i c2]
        rfl
      · by_cases c3 : zST b = 31
        · rw [zent_l c3, zent_l c3]
          rfl
        · by_cases c4 : zST b = 34
          · rw [zent_w c4, zent_w c4]
            rfl
          · have c5 : zST b = 32 ∨ zST b = 33 := by omega
            rw [zent_r c5, zent_r c5]
            congr 6
            congr 1
            funext i
            unfold zrw
            by_cases hi : σ.2.2.2.2.2 b i = true
            · have h8 := (h7 b i (0, 0, 0) hi).2 c5
              rw [if_pos (show (false || (zNS σ k).2.2.2.2.2 b i) = true from hi), if_pos (show (false || σ.2.2.2.2.2 b i) = true from hi), hag _ h8]
            · rw [if_neg (show ¬ (false || (zNS σ k).2.2.2.2.2 b i) = true from hi), if_neg (show ¬ (false || σ.2.2.2.2.2 b i) = true from hi)]
  have es := zWS_push (σ' := zNS σ k) (K := K) (ph := false) (ad := ad) (ad' := ad') (σ := σ) (q := q) (e := e) rfl hag hq ho (he ad')
  rw [es] at g1 g2
  refine ⟨g1, g2, h1, h2, h14, fun z => absurd z (by decide), fun a i hi => h5 a i ?_, fun z => h6 ?_, fun a i v hi => ?_⟩
  · have : ((σ.2.2.2.2.1 + 1 : Nat) : Int) ≤ a := hi
    omega
  · have : σ.2.2.2.2.1 + 1 ≤ 310 := z
    omega
  · have h8 := h7 a i v hi
    exact ⟨fun z1 z2 => Nat.lt_succ_of_lt (h8.1 z1 z2), fun z1 => Nat.lt_succ_of_lt (h8.2 z1)⟩
section ZK
variable {p : Program} {l : Launch} {e : Env} {R : Room} {s : State} {m : MethodId} {args : Array Value} {below : List Frame} {meth : Method} {c : Code} {Q : State → Prop} {K : zCx} {j d : Nat} {ad0 : Nat → Nat} {n0 c0 s0 : Nat}
variable {is : zL} {ls st : List zV} {σ : zS} {ad : Nat → Nat} {H : Heap} {locs : List Loc} {lm : Array Slot} {sm : List Value} {pc t : Nat}
theorem zbase (hcst : zCst K s) : ∀ q, s.heap.size ≤ q → K.A q := fun q hq => Nat.le_trans hcst.2.2.2.2.2.2.2.2.2.2.2.2.2 hq
/-- behind it -/
theorem zmade {L q u k : Nat} {e9 : va_E} {H1 : Heap} {sm1 : List Value} (hP : zPic K false ad σ H) (h14 : σ.2.2.2.2.1 < 1479) (hu : zST σ.2.2.2.2.1 = u) (he : ∀ ad' : Nat → Nat, zent K false ad' (zNS σ k) σ.2.2.2.2.1 = e9)
    (g1 : va_P K.D zCl (zWS K false ad σ ++ [(q, e9)]) H1) (g2 : va_D K.A (zWS K false ad σ ++ [(q, e9)])) (g3 : va_S K.A s.heap H1 locs)
    (hag : zag ad0 ad n0) (hi : is = zdrop (zmc j).1 (t + 1)) (hpc : is = [] ∨ (zpc j)[t + 1]? = some (pc + L)) (hL : zLoc K ad σ.2.2.2.2.1 lm (zml j) ls) (hR : zRels K ad σ.2.2.2.2.1 st sm1) (hn : n0 ≤ σ.2.2.2.2.1) (hc : c0 ≤ σ.2.2.1) (hs : s0 ≤ σ.2.2.2.1)
    (G : zGo p l e R s m args below meth c Q K false j ad0 n0 c0 s0 is ls ((u, (σ.2.2.2.2.1 : Int), zYT σ.2.2.2.2.1) :: st) (zNS σ k)) : W p l e R s m args below meth c H1 locs (σ.2.2.1 - c0 + 1) (σ.2.2.2.1 - s0 + k) Q (F0 m (pc + L) lm (.ref q :: sm1)) := by
  obtain ⟨ad', a1, a2, a3⟩ := zPic_push hP h14 he g1 g2
  have hz := zST_ok h14
  have := G ad' H1 locs lm (.ref q :: sm1) _ (t + 1) (hag.tr a1 hn) hi hpc a3 g3 (zLoc_more a1 (Nat.le_succ _) hL) ⟨(zRel_o (by omega) (by omega)).mpr ⟨by rw [Int.toNat_natCast, a2], by omega, by omega, by omega, by rw [Int.toNat_natCast]; exact Nat.lt_succ_self _, by rw [Int.toNat_natCast]; exact hu, by rw [Int.toNat_natCast]⟩, zRels_more a1 (Nat.le_succ _) hR⟩ (Nat.le_succ_of_le hn) (Nat.le_succ_of_le hc) (Nat.le_trans hs (Nat.le_add_right _ _))
  have e1 : (zNS σ k).2.2.1 - c0 = σ.2.2.1 - c0 + 1 := by show σ.2.2.1 + 1 - c0 = _; omega
  have e2 : (zNS σ k).2.2.2.1 - s0 = σ.2.2.2.1 - s0 + k := by show σ.2.2.2.1 + k - s0 = _; omega
  rw [e1, e2] at this
  exact this
theorem zs_new {i k : Nat} (hd : decode (zmb j) pc = .ok (.new i, 3)) (hl : zNL9.any (fun e => Nat.beq e.1 (zmo j) && Nat.beq e.2.1 i && Nat.beq e.2.2.1 k) = true) (hk : k < 11) (h14 : σ.2.2.2.2.1 < 1479) (hu : zST σ.2.2.2.2.1 = 10 + k) (hrc : σ.2.2.1 - c0 + 1 ≤ R.cells) (hrs : σ.2.2.2.1 - s0 + zNF k ≤ R.slots)
    (C : zAct p l R s m args meth c K j d) (hag : zag ad0 ad n0) (hi : is = zdrop (zmc j).1 (t + 1)) (hpc : is = [] ∨ (zpc j)[t + 1]? = some (pc + 3)) (hP : zPic K false ad σ H) (hS : va_S K.A s.heap H locs) (hL : zLoc K ad σ.2.2.2.2.1 lm (zml j) ls) (hR : zRels K ad σ.2.2.2.2.1 st sm) (hn : n0 ≤ σ.2.2.2.2.1) (hc : c0 ≤ σ.2.2.1) (hs : s0 ≤ σ.2.2.2.1)
    (G : zGo p l e R s m args below meth c Q K false j ad0 n0 c0 s0 is ls ((10 + k, (σ.2.2.2.2.1 : Int), zYT σ.2.2.2.2.1) :: st) (zNS σ (zNF k))) : W p l e R s m args below meth c H locs (σ.2.2.1 - c0) (σ.2.2.2.1 - s0) Q (F0 m pc lm sm) := by
  obtain ⟨hx, hb, hml, hown, hts, hcst, -⟩ := C
  obtain ⟨q0, hq0, h1⟩ := List.any_eq_true.mp hl
  simp only [Bool.and_eq_true] at h1
  obtain ⟨⟨e1, e2⟩, e3⟩ := h1
  have hw := zgw_ok (List.all_eq_true.mp zNL_ok q0 hq0)
  rw [Nat.eq_of_beq_eq_true e1, Nat.eq_of_beq_eq_true e2, Nat.eq_of_beq_eq_true e3] at hw
  have ho := zOi_ok hk
  have hwf := hP.2.2
  refine va_new (Ts := zGood) (fs := (List.range (zNF k)).map (fun f => match zfd k f (σ.2.2.2.2.1 : Int) (zYT σ.2.2.2.2.1) with
    | none => Value.int 0
    | some _ => Value.null)) hx hb (fun w h => hts w (List.mem_filter.mp h).1 (List.mem_filter.mp h).2) (zLay_in hk) (zYY k) (zYok_in hk) hown (hts _ hw.1 hw.2) (hts _ ho.2.1 ho.2.2) (hts _ ho.1.1 ho.1.2) hcst.1 hP.1 hP.2.1 hS (zbase hcst) (zCl_at hk) (fun f hf => ?_) hrc hrs hd (fun q H1 g1 g2 g3 => zmade hP h14 hu (fun ad' => ?_) g1 g2 g3 hag hi hpc hL hR hn hc hs G)
  · have e9 : vp_V ((List.range (zNF k)).map (fun f => match zfd k f (σ.2.2.2.2.1 : Int) (zYT σ.2.2.2.2.1) with
      | none => Value.int 0
      | some _ => Value.null)) f = (match zfd k f (σ.2.2.2.2.1 : Int) (zYT σ.2.2.2.2.1) with
      | none => Value.int 0
      | some _ => Value.null) := by
      unfold vp_V
      rw [List.getD_eq_getElem?_getD, List.getElem?_map, List.getElem?_range hf]
      rfl
    rw [e9]
    cases hv : zfd k f (σ.2.2.2.2.1 : Int) (zYT σ.2.2.2.2.1) with
    | none => exact znum_ty hk hf hv
    | some v => exact (zref_ty hk hf hv).2.2
  · rw [zent_o hu (by omega), Nat.add_sub_cancel_left]
    congr 2
    apply List.map_congr_left
    intro f _
    unfold zfv
    rw [show zST σ.2.2.2.2.1 - 10 = k by omega]
    have h5 := hwf.2.2.2.2.1 (σ.2.2.2.2.1 : Int) f (Int.le_refl _)
    cases hv : zfd k f (σ.2.2.2.2.1 : Int) (zYT σ.2.2.2.2.1) with
    | none =>
      show Value.int (Int32.ofInt (σ.1 (σ.2.2.2.2.1 : Int) f)) = Value.int 0
      rw [h5.1]
      rfl
    | some v =>
      show (if (false || σ.2.2.2.2.2 (σ.2.2.2.2.1 : Int) f) = true then _ else _) = Value.null
      rw [if_neg (by rw [h5.2]; decide)]
theorem zRA_eq {C : FieldType} {a b : ClassId} (h1 : va_RA s a C) (h2 : va_RA s b C) : a = b := by
  cases C
  case object C =>
    obtain ⟨_, _, _, _, _, e1⟩ := h1
    obtain ⟨_, _, _, _, _, e2⟩ := h2
    exact Option.some.inj (e1.symm.trans e2)
  all_goals exact Option.some.inj (Eq.trans (Eq.symm h1) h2)
theorem zac_int : Cond.arrayClass .int ∈ lw_tbl ∧ goodWord (Cond.arrayClass .int) = true := zgw_ok (p := 175) (by decide +kernel)
theorem zac_long : Cond.arrayClass .long ∈ lw_tbl ∧ goodWord (Cond.arrayClass .long) = true := zgw_ok (p := 2118) (by decide +kernel)
/-- a row of numbers -/
theorem zs_newarray {u : Nat} {n z : Int} {at_ : ArrayType} (hd : decode (zmb j) pc = .ok (.newarray at_, 2)) (h0 : 0 ≤ n) (ha : (at_ = .int ∧ u = 30) ∨ (at_ = .long ∧ u = 31)) (h14 : σ.2.2.2.2.1 < 1479) (hu : zST σ.2.2.2.2.1 = u) (hy : zYT σ.2.2.2.2.1 = n) (hrc : σ.2.2.1 - c0 + 1 ≤ R.cells) (hrs : σ.2.2.2.1 - s0 + n.toNat ≤ R.slots)
    (C : zAct p l R s m args meth c K j d) (hag : zag ad0 ad n0) (hi : is = zdrop (zmc j).1 (t + 1)) (hpc : is = [] ∨ (zpc j)[t + 1]? = some (pc + 2)) (hP : zPic K false ad σ H) (hS : va_S K.A s.heap H locs) (hL : zLoc K ad σ.2.2.2.2.1 lm (zml j) ls) (hR : zRels K ad σ.2.2.2.2.1 ((0, n, z) :: st) sm) (hn : n0 ≤ σ.2.2.2.2.1) (hc : c0 ≤ σ.2.2.1) (hs : s0 ≤ σ.2.2.2.1)
    (G : zGo p l e R s m args below meth c Q K false j ad0 n0 c0 s0 is ls ((u, (σ.2.2.2.2.1 : Int), zYT σ.2.2.2.2.1) :: st) (zNS σ n.toNat)) : W p l e R s m args below meth c H locs (σ.2.2.1 - c0) (σ.2.2.2.1 - s0) Q (F0 m pc lm sm) := by
  obtain ⟨hx, hb, hml, hown, hts, hcst, -⟩ := C
  obtain ⟨w1, ws1, rfl, ⟨rfl, r1⟩, hR1⟩ := zRels_cons hR
  have hz := zST_ok h14
  have h5 := hP.2.2.2.2.2.2.1
  have hK := hcst.1
  rcases ha with ⟨rfl, rfl⟩ | ⟨rfl, rfl⟩
  · have hac : (Cond.arrayClass (newarray.typeOf .int)).before args s = true := hts _ zac_int.1 zac_int.2
    refine va_newa (atype := .int) (a0 := (n.toNat, .inl (fun _ => 0))) (ty := .int) (N' := n.toNat) hx hb hac rfl hK hP.1 hP.2.1 hS (zbase hcst) (fun cA => rfl) (zi_nneg r1 h0) (zi_clamp r1) (by
      have : componentBytes FieldType.int = 4 := rfl
      rw [this]; omega) hrc hrs hd (fun q cA H1 gK g1 g2 g3 => ?_)
    have ecA : cA = K.cA 30 := zRA_eq (gK.2 5 (cA, .int) rfl).2 (hK.2 0 (K.cA 30, .int) rfl).2
    subst ecA
    refine zmade hP h14 hu (fun ad' => ?_) g1 g2 g3 hag hi hpc hL hR1 hn hc hs G
    rw [zent_i hu, hy]
    congr 3
    congr 1
    funext i
    show Int32.ofInt (σ.1 (σ.2.2.2.2.1 : Int) i) = 0
    rw [(h5 _ _ (Int.le_refl _)).1]
    rfl
  · have hac : (Cond.arrayClass (newarray.typeOf .long)).before args s = true := hts _ zac_long.1 zac_long.2
    refine va_newa (atype := .long) (a0 := (n.toNat, .inr (.inl (fun _ => 0)))) (ty := .long) (N' := n.toNat) hx hb hac rfl hK hP.1 hP.2.1 hS (zbase hcst) (fun cA => rfl) (zi_nneg r1 h0) (zi_clamp r1) (by
      have : componentBytes FieldType.long = 8 := rfl
      rw [this]; omega) hrc hrs hd (fun q cA H1 gK g1 g2 g3 => ?_)
    have ecA : cA = K.cA 31 := zRA_eq (gK.2 5 (cA, .long) rfl).2 (hK.2 1 (K.cA 31, .long) rfl).2
    subst ecA
    refine zmade hP h14 hu (fun ad' => ?_) g1 g2 g3 hag hi hpc hL hR1 hn hc hs G
    rw [zent_l hu, hy]
    congr 4
    congr 1
    funext i
    show Int64.ofInt (σ.1 (σ.2.2.2.2.1 : Int) i) = 0
    rw [(h5 _ _ (Int.le_refl _)).1]
    rfl
/-- a row of references -/
theorem zs_anewarray {i u : Nat} {n z : Int} (hd : decode (zmb j) pc = .ok (.anewarray i, 3)) (hl : zAL.any (fun e => Nat.beq e.1 (zmo j) && Nat.beq e.2.1 i && Nat.beq e.2.2.1 u) = true) (h0 : 0 ≤ n) (ha : u = 32 ∨ u = 33 ∨ u = 34) (h14 : σ.2.2.2.2.1 < 1479) (hu : zST σ.2.2.2.2.1 = u) (hy : zYT σ.2.2.2.2.1 = n) (hrc : σ.2.2.1 - c0 + 1 ≤ R.cells) (hrs : σ.2.2.2.1 - s0 + n.toNat ≤ R.slots)
    (C : zAct p l R s m args meth c K j d) (hag : zag ad0 ad n0) (hi : is = zdrop (zmc j).1 (t + 1)) (hpc : is = [] ∨ (zpc j)[t + 1]? = some (pc + 3)) (hP : zPic K false ad σ H) (hS : va_S K.A s.heap H locs) (hL : zLoc K ad σ.2.2.2.2.1 lm (zml j) ls) (hR : zRels K ad σ.2.2.2.2.1 ((0, n, z) :: st) sm) (hn : n0 ≤ σ.2.2.2.2.1) (hc : c0 ≤ σ.2.2.1) (hs : s0 ≤ σ.2.2.2.1)
    (G : zGo p l e R s m args below meth c Q K false j ad0 n0 c0 s0 is ls ((u, (σ.2.2.2.2.1 : Int), zYT σ.2.2.2.2.1) :: st) (zNS σ n.toNat)) : W p l e R s m args below meth c H locs (σ.2.2.1 - c0) (σ.2.2.2.1 - s0) Q (F0 m pc lm sm) := by
  obtain ⟨hx, hb, hml, hown, hts, hcst, -⟩ := C
  obtain ⟨q0, hq0, h1⟩ := List.any_eq_true.mp hl
  simp only [Bool.and_eq_true] at h1
  obtain ⟨⟨e1, e2⟩, e3⟩ := h1
  have hw := zgw_ok (List.all_eq_true.mp zAL_ok q0 hq0)
  rw [Nat.eq_of_beq_eq_true e1, Nat.eq_of_beq_eq_true e2, Nat.eq_of_beq_eq_true e3] at hw
  obtain ⟨w1, ws1, rfl, ⟨rfl, r1⟩, hR1⟩ := zRels_cons hR
  have hz := zST_ok h14
  have hwf := hP.2.2
  have h5 := hwf.2.2.2.2.1
  have hK := hcst.1
  have hrr : ∀ {C : String} {cA : ClassId} (k : Nat), (zTys K)[k]? = some (K.cA u, .object C) → va_K K.D zCl (zTys K ++ [(cA, .object C)]) s → cA = K.cA u := fun k e1 gK => zRA_eq (gK.2 5 (_, _) rfl).2 (hK.2 k _ e1).2
  rcases ha with rfl | rfl | rfl
  · refine va_newq (C := "CyclicLines$Line") hx hb hown (hts _ hw.1 hw.2) hcst.2.2.1.1 hK hP.1 hP.2.1 hS (zbase hcst) (zi_nneg r1 h0) (zi_clamp r1) (by omega) hrc hrs hd (fun q cA H1 gK g1 g2 g3 => ?_)
    have ecA := hrr 2 rfl gK
    subst ecA
    refine zmade hP h14 hu (fun ad' => ?_) g1 g2 g3 hag hi hpc hL hR1 hn hc hs G
    rw [zent_r (Or.inl hu), hu, hy]
    congr 6
    congr 1
    funext i
    unfold zrw
    rw [if_neg (by show ¬ (false || σ.2.2.2.2.2 (σ.2.2.2.2.1 : Int) i) = true; rw [(h5 _ _ (Int.le_refl _)).2]; decide)]
  · refine va_newq (C := "CyclicLines$World") hx hb hown (hts _ hw.1 hw.2) hcst.2.2.1.2.1 hK hP.1 hP.2.1 hS (zbase hcst) (zi_nneg r1 h0) (zi_clamp r1) (by omega) hrc hrs hd (fun q cA H1 gK g1 g2 g3 => ?_)
    have ecA := hrr 3 rfl gK
    subst ecA
    refine zmade hP h14 hu (fun ad' => ?_) g1 g2 g3 hag hi hpc hL hR1 hn hc hs G
    rw [zent_r (Or.inr hu), hu, hy]
    congr 6
    congr 1
    funext i
    unfold zrw
    rw [if_neg (by show ¬ (false || σ.2.2.2.2.2 (σ.2.2.2.2.1 : Int) i) = true; rw [(h5 _ _ (Int.le_refl _)).2]; decide)]
  · refine va_newq (C := "CyclicLines$Word") hx hb hown (hts _ hw.1 hw.2) hcst.2.2.1.2.2 hK hP.1 hP.2.1 hS (zbase hcst) (zi_nneg r1 h0) (zi_clamp r1) (by omega) hrc hrs hd (fun q cA H1 gK g1 g2 g3 => ?_)
    have ecA := hrr 4 rfl gK
    subst ecA
    refine zmade hP h14 hu (fun ad' => ?_) g1 g2 g3 hag hi hpc hL hR1 hn hc hs G
    have h310 := hz.2.2.2.2.2.2.mp hu
    rw [zent_w hu, hy]
    congr 6
    congr 1
    funext i
    unfold zwr
    rw [if_pos (by show σ.2.1 i < 0; rw [hwf.2.2.2.2.2.1 (by omega) i]; decide)]
end ZK
