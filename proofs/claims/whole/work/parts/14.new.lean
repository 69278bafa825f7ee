/-! ## while the objects are made: references stored, objects and rows made -/
/-- a reference is stored into an object by its own class's constructor only -/
def zpfc (j : Nat) : Bool := (zmc j).1.all (fun i => match i with
  | .putfield k => match zfd (k / 64) (k % 64) 0 0 with
    | none => true
    | some _ => decide ((zmy j).name = "<init>") && decide (zcn (zmo j) = zON (k / 64))
  | _ => true)
theorem zpfc_1 : (List.range 100).all (fun i => zpfc (1 + i)) = true := by decide +kernel
theorem zpfc_101 : (List.range 100).all (fun i => zpfc (101 + i)) = true := by decide +kernel
theorem zpfc_201 : (List.range 115).all (fun i => zpfc (201 + i)) = true := by decide +kernel
theorem zpfc_316 : zpfc 316 = true := by decide +kernel
theorem zpfc_ok {j : Nat} (h0 : 0 < j) (h : j < 317) : zpfc j = true := by
  by_cases h1 : j < 101
  · have := List.all_eq_true.mp zpfc_1 (j - 1) (List.mem_range.mpr (by omega))
    rwa [show 1 + (j - 1) = j by omega] at this
  · by_cases h2 : j < 201
    · have := List.all_eq_true.mp zpfc_101 (j - 101) (List.mem_range.mpr (by omega))
      rwa [show 101 + (j - 101) = j by omega] at this
    · by_cases h3 : j < 316
      · have := List.all_eq_true.mp zpfc_201 (j - 201) (List.mem_range.mpr (by omega))
        rwa [show 201 + (j - 201) = j by omega] at this
      · have : j = 316 := by omega
        subst this
        exact zpfc_316
theorem zfd_some {c s : Nat} {a y : Int} {v : zV} (h : zfd c s a y = some v) : ∃ u, zfd c s 0 0 = some u := by
  cases h0 : zfd c s 0 0 with
  | some u => exact ⟨u, rfl⟩
  | none => rw [zfd_none _ _ _ _ a y h0] at h; cases h
theorem zpf_at {j k t : Nat} {x y : Int} {v : zV} (h0 : 0 < j) (h : j < 317) (hi : (zmc j).1[t]? = some (.putfield k)) (hv : zfd (k / 64) (k % 64) x y = some v) : (zmy j).name = "<init>" ∧ zcn (zmo j) = zON (k / 64) := by
  have h1 := List.all_eq_true.mp (zpfc_ok h0 h) _ (List.mem_of_getElem? hi)
  obtain ⟨u, hu⟩ := zfd_some hv
  simp only [hu, Bool.and_eq_true, decide_eq_true_eq] at h1
  exact h1
theorem zFLr_ok : zFL.all (fun e => !e.2.2.2.1 || !decide (zcn e.1 = zON (e.2.2.1 / 64))) = true := by decide +kernel
theorem zFL_own {o i k : Nat} (h : zFL.any (fun e => Nat.beq e.1 o && Nat.beq e.2.1 i && Nat.beq e.2.2.1 k) = true) (ho : zcn o = zON (k / 64)) :
    Cond.fieldLink (zcn o) i (zfn k).1 (zfn k).2.1 (zfn k).2.2 ∈ lw_tbl ∧ goodWord (Cond.fieldLink (zcn o) i (zfn k).1 (zfn k).2.1 (zfn k).2.2) = true := by
  obtain ⟨q, hq, h1⟩ := List.any_eq_true.mp h
  simp only [Bool.and_eq_true] at h1
  obtain ⟨⟨e1, e2⟩, e3⟩ := h1
  have e1 := Nat.eq_of_beq_eq_true e1
  have e2 := Nat.eq_of_beq_eq_true e2
  have e3 := Nat.eq_of_beq_eq_true e3
  subst e1 e2 e3
  have h2 := List.all_eq_true.mp zFL_ok q hq
  have h3 := List.all_eq_true.mp zFLr_ok q hq
  unfold zFLc at h2
  split at h2
  · exact zgw_ok h2
  · rename_i hb
    rw [hb, ho] at h3
    simp at h3
theorem zTTc_all : (List.range 11).all (fun c => (List.range (zNF c)).all (fun s => decide ((zTT c s).1 = zON c))) = true := by decide +kernel
theorem zTTc_ok {c s : Nat} (hc : c < 11) (hs : s < zNF c) : (zTT c s).1 = zON c := of_decide_eq_true (List.all_eq_true.mp (List.all_eq_true.mp zTTc_all c (List.mem_range.mpr hc)) s (List.mem_range.mpr hs))
theorem zref_ty {c s : Nat} {a y : Int} {v : zV} (hc : c < 11) (hs : s < zNF c) (h : zfd c s a y = some v) : (zTT c s).2.2.2 = true ∧ (∀ A, narrow (zYY c s) (.ref A) = .ref A ∧ fits (zYY c s) (.ref A) = true) ∧ defaultValue (zYY c s) = .null := by
  have hz := zint_ok hc hs
  obtain ⟨u, hu⟩ := zfd_some h
  unfold zintc at hz
  rw [hu] at hz
  simp only [Bool.and_eq_true] at hz
  refine ⟨hz.2, ?_⟩
  have h1 := hz.1
  generalize zYY c s = ty at h1 ⊢
  cases ty <;> first | (simp at h1; done) | exact ⟨fun A => ⟨rfl, rfl⟩, rfl⟩
theorem znum_ty {c s : Nat} {a y : Int} (hc : c < 11) (hs : s < zNF c) (h : zfd c s a y = none) : defaultValue (zYY c s) = .int 0 := by
  have hz := zint_ok hc hs
  unfold zintc at hz
  rw [zfd_none _ _ _ _ 0 0 h] at hz
  simp only [Bool.and_eq_true, decide_eq_true_eq] at hz
  rw [hz.1]
  split <;> rfl
theorem zupB_ne {f : Int → Int → Bool} {a k b : Int} (h : b ≠ a) (i : Int) : zupB f a k b i = f b i := by simp [zupB, h]
theorem zupB_eq {f : Int → Int → Bool} {a k : Int} : zupB f a k a k = true := by simp [zupB]
theorem zupB_ni {f : Int → Int → Bool} {a k i : Int} (b : Int) (h : i ≠ k) : zupB f a k b i = f b i := by simp [zupB, h]
theorem zent_upB {K : zCx} {ph : Bool} {ad : Nat → Nat} {σ : zS} {a b : Nat} {k : Int} (h : b ≠ a) : zent K ph ad (σ.1, σ.2.1, σ.2.2.1, σ.2.2.2.1, σ.2.2.2.2.1, zupB σ.2.2.2.2.2 a k) b = zent K ph ad σ b := by
  have e : ∀ i : Int, zupB σ.2.2.2.2.2 a k b i = σ.2.2.2.2.2 b i := fun i => zupB_ne (by omega) i
  unfold zent zfv zrw zwr
  simp only [e]
theorem zWf_upB {ph : Bool} {σ : zS} {a k : Nat} (h : zWf ph σ) (ha : a < σ.2.2.2.2.1) (hv : (∀ v, zST a < 30 → zfd (zST a - 10) k a (zYT a) = some v → v.2.1.toNat < σ.2.2.2.2.1) ∧ (zST a = 32 ∨ zST a = 33 → (zrl (zST a) a k).2.1.toNat < σ.2.2.2.2.1)) :
    zWf ph (σ.1, σ.2.1, σ.2.2.1, σ.2.2.2.1, σ.2.2.2.2.1, zupB σ.2.2.2.2.2 a (k : Nat)) := by
  obtain ⟨h1, h2, h3, h4, h5, h6, h7⟩ := h
  refine ⟨h1, h2, h3, h4, fun b i hb => ⟨(h5 b i hb).1, ?_⟩, h6, fun b i v hbi => ?_⟩
  · have hb' : (σ.2.2.2.2.1 : Int) ≤ b := hb
    show zupB σ.2.2.2.2.2 a (k : Nat) b i = false
    rw [zupB_ne (by omega)]
    exact (h5 b i hb).2
  · by_cases hab : b = a ∧ i = k
    · obtain ⟨rfl, rfl⟩ := hab
      exact ⟨fun q1 q2 => hv.1 v q1 q2, hv.2⟩
    · refine h7 b i v ?_
      have hbi' : zupB σ.2.2.2.2.2 a (k : Nat) b i = true := hbi
      by_cases e1 : b = a
      · rwa [zupB_ni _ (by omega)] at hbi'
      · rwa [zupB_ne (by omega)] at hbi'
section ZN
variable {p : Program} {l : Launch} {e : Env} {R : Room} {s : State} {m : MethodId} {args : Array Value} {below : List Frame} {meth : Method} {c : Code} {Q : State → Prop} {K : zCx} {j d : Nat} {ad0 : Nat → Nat} {n0 c0 s0 : Nat}
variable {is : zL} {ls st : List zV} {σ : zS} {ad : Nat → Nat} {H : Heap} {locs : List Loc} {lm : Array Slot} {sm : List Value} {pc t : Nat}
theorem zs_putref {i k u r : Nat} {x y v z : Int} (hd : decode (zmb j) pc = .ok (.putfield i, 3)) (hl : zFL.any (fun e => Nat.beq e.1 (zmo j) && Nat.beq e.2.1 i && Nat.beq e.2.2.1 k) = true) (hu : u = 10 + k / 64) (hk9 : k < 1000)
    (hv : zfd (k / 64) (k % 64) x y = some (r, v, z)) (hin : (zmy j).name = "<init>" ∧ zcn (zmo j) = zON (k / 64))
    (C : zAct p l R s m args meth c K j d) (hag : zag ad0 ad n0) (hi : is = zdrop (zmc j).1 (t + 1)) (hpc : is = [] ∨ (zpc j)[t + 1]? = some (pc + 3)) (hP : zPic K false ad σ H) (hS : va_S K.A s.heap H locs) (hL : zLoc K ad σ.2.2.2.2.1 lm (zml j) ls) (hR : zRels K ad σ.2.2.2.2.1 ((r, v, z) :: (u, x, y) :: st) sm) (hn : n0 ≤ σ.2.2.2.2.1) (hc : c0 ≤ σ.2.2.1) (hs : s0 ≤ σ.2.2.2.1)
    (G : zGo p l e R s m args below meth c Q K false j ad0 n0 c0 s0 is ls st (σ.1, σ.2.1, σ.2.2.1, σ.2.2.2.1, σ.2.2.2.2.1, zupB σ.2.2.2.2.2 x (k % 64 : Nat))) : W p l e R s m args below meth c H locs (σ.2.2.1 - c0) (σ.2.2.2.1 - s0) Q (F0 m pc lm sm) := by
  obtain ⟨hx, hb, hml, hown, hts, hcst, -, -, -, hnm, -⟩ := C
  have hw := zFL_own hl hin.2
  obtain ⟨-, hkr⟩ := zFL_any hl
  have hk : k < 704 ∧ k % 64 < zNF (k / 64) := by omega
  have hci : k / 64 < 11 := by omega
  obtain ⟨w0, ws0, rfl, r0, hR1⟩ := zRels_cons hR
  obtain ⟨w1, ws1, rfl, r1, hR2⟩ := zRels_cons hR1
  obtain ⟨rfl, h10, h35, hx0, hxn, hst, hy⟩ := (zRel_o (by omega) (by omega)).mp r1
  obtain ⟨a, rfl⟩ : ∃ a : Nat, x = (a : Int) := ⟨x.toNat, by omega⟩
  simp only [Int.toNat_natCast] at hxn hst hy ⊢
  rw [hu] at hst
  have hwf := hP.2.2
  have ha1479 : a < 1479 := by have := hwf.2.2.1; omega
  have hvv : zfd (10 + k / 64 - 10) (k % 64) a (zYT a) = some (r, v, z) := by rw [Nat.add_sub_cancel_left, ← hy]; exact hv
  obtain ⟨v1, v2, v3, v4, v5, v6⟩ := zfd_ok ha1479 hst (by omega) (by rw [Nat.add_sub_cancel_left]; exact hk.2) hvv
  obtain ⟨rfl, -, -, hv0, hvn, -, -⟩ := (zRel_o v1 v2).mp r0
  have hat : (zWS K false ad σ)[a]? = some (ad a, .inr (k / 64, (List.range (zNF (k / 64))).map (fun q => zfv K false ad σ a q))) := by
    rw [zWS_at hxn, zent_o hst (by omega), Nat.add_sub_cancel_left]
  have hty := zref_ty hci hk.2 hv
  rw [zfn_lt hk.1] at hw
  refine va_putF (Ts := zGood) hx hb (fun w h => hts w (List.mem_filter.mp h).1 (List.mem_filter.mp h).2) (zLay_in hci) (zYY (k / 64)) (zYok_in hci) (zNm_in hci) hown hcst.1 hP.1 hP.2.1 hS a hat (zCl_at hci) (k % 64) hk.2 (hts _ hw.1 hw.2) (fun _ h => h) hty.1 (hnm hin.1) ((zTTc_ok hci hk.2).trans hin.2.symm) (zYok_in hci _ hk.2) (hty.2.1 _).1 (hty.2.1 _).2 (by simp; exact hk.2) hd (fun H1 locs1 g1 g2 g3 => ?_)
  have es : (zWS K false ad σ).set a (ad a, .inr (k / 64, ((List.range (zNF (k / 64))).map (fun q => zfv K false ad σ a q)).set (k % 64) (.ref (ad v.toNat)))) = zWS K false ad (σ.1, σ.2.1, σ.2.2.1, σ.2.2.2.1, σ.2.2.2.2.1, zupB σ.2.2.2.2.2 a (k % 64 : Nat)) := by
    refine zWS_set rfl (fun b _ hba => zent_upB hba) ?_
    rw [zent_o hst (by omega), Nat.add_sub_cancel_left]
    congr 2
    apply List.ext_getElem?
    intro q
    rw [List.getElem?_set, List.getElem?_map, List.getElem?_map]
    by_cases hq : q < zNF (k / 64)
    · rw [List.getElem?_range hq]
      simp only [Option.map_some]
      by_cases hqk : k % 64 = q
      · rw [if_pos hqk]
        subst hqk
        simp only [List.length_map, List.length_range, hq, if_true]
        unfold zfv
        rw [show zST a - 10 = k / 64 by omega, ← hy, hv]
        simp only [zupB_eq, Bool.false_or, if_true]
      · rw [if_neg hqk]
        unfold zfv
        have : zupB σ.2.2.2.2.2 a (k % 64 : Nat) a q = σ.2.2.2.2.2 a q := zupB_ni _ (by omega)
        simp only [this]
    · rw [List.getElem?_eq_none (by simp; omega)]
      rw [if_neg (by omega)]
      rfl
  rw [es] at g1 g2
  refine G ad H1 locs1 lm _ _ (t + 1) hag hi hpc ⟨g1, g2, zWf_upB hwf hxn ⟨fun v' q1 q2 => ?_, fun q1 => by omega⟩⟩ g3 hL hR2 hn hc hs
  rw [show zST a - 10 = k / 64 by omega, ← hy, hv] at q2
  cases q2
  exact hvn
/-- a row of objects gets one -/
theorem zs_aastoreR {u r : Nat} {x y i z v z2 : Int} (hd : decode (zmb j) pc = .ok (.aastore, 1)) (hu : u = 32 ∨ u = 33) (hv : zrl u x i = (r, v, z)) (h0 : 0 ≤ i) (hiy : i < y)
    (C : zAct p l R s m args meth c K j d) (hag : zag ad0 ad n0) (hi : is = zdrop (zmc j).1 (t + 1)) (hpc : is = [] ∨ (zpc j)[t + 1]? = some (pc + 1)) (hP : zPic K false ad σ H) (hS : va_S K.A s.heap H locs) (hL : zLoc K ad σ.2.2.2.2.1 lm (zml j) ls) (hR : zRels K ad σ.2.2.2.2.1 ((r, v, z) :: (0, i, z2) :: (u, x, y) :: st) sm) (hn : n0 ≤ σ.2.2.2.2.1) (hc : c0 ≤ σ.2.2.1) (hs : s0 ≤ σ.2.2.2.1)
    (G : zGo p l e R s m args below meth c Q K false j ad0 n0 c0 s0 is ls st (σ.1, σ.2.1, σ.2.2.1, σ.2.2.2.1, σ.2.2.2.2.1, zupB σ.2.2.2.2.2 x i)) : W p l e R s m args below meth c H locs (σ.2.2.1 - c0) (σ.2.2.2.1 - s0) Q (F0 m pc lm sm) := by
  obtain ⟨hx, hb, hml, hown, hts, hcst, -⟩ := C
  obtain ⟨w9, ws9, rfl, r9, hR1⟩ := zRels_cons hR
  obtain ⟨w0, ws0, rfl, ⟨rfl, r0⟩, hR2⟩ := zRels_cons hR1
  obtain ⟨w1, ws1, rfl, r1, hR3⟩ := zRels_cons hR2
  obtain ⟨rfl, h10, h35, hx0, hxn, hst, hy⟩ := (zRel_o (by omega) (by omega)).mp r1
  obtain ⟨b, rfl⟩ : ∃ b : Nat, x = (b : Int) := ⟨x.toNat, by omega⟩
  obtain ⟨k, rfl⟩ : ∃ k : Nat, i = (k : Int) := ⟨i.toNat, by omega⟩
  simp only [Int.toNat_natCast] at hxn hst hy ⊢
  have hwf := hP.2.2
  have hb1479 : b < 1479 := by have := hwf.2.2.1; omega
  have hst2 : zST b = 32 ∨ zST b = 33 := by omega
  obtain ⟨q1, q2, q3, q4⟩ := zrl_ok (i := k) hb1479 hst2 (by omega)
  have hat := zWS_at (K := K) (ph := false) (ad := ad) hxn
  rw [zent_r hst2] at hat
  have hr : r = 13 ∧ u = 32 ∨ r = 18 ∧ u = 33 := by
    rcases hu with rfl | rfl
    · unfold zrl at hv
      rw [if_pos rfl] at hv
      cases hv
      exact Or.inl ⟨rfl, rfl⟩
    · unfold zrl at hv
      rw [if_neg (by decide)] at hv
      cases hv
      exact Or.inr ⟨rfl, rfl⟩
  obtain ⟨rfl, -, -, hv0, hvn, hvst, -⟩ := (zRel_o (show 10 ≤ r by omega) (show r < 35 by omega)).mp r9
  have hqk := zWS_at (K := K) (ph := false) (ad := ad) hvn
  rw [zent_o hvst (by omega)] at hqk
  have hin := zi_in r0 h0 hiy
  rw [hy] at hin
  have hfin : ∀ (H1 : Heap) (locs1 : List Loc), va_P K.D zCl ((zWS K false ad σ).set b (ad b, .inl (K.cA (zST b), (zYT b).toNat, .inr (.inr (.inr (.inr (va_up (zrw K false ad σ b) (Int32.ofInt (k : Int)).toNatClampNeg (some (ad v.toNat))))))))) H1 → va_D K.A ((zWS K false ad σ).set b (ad b, .inl (K.cA (zST b), (zYT b).toNat, .inr (.inr (.inr (.inr (va_up (zrw K false ad σ b) (Int32.ofInt (k : Int)).toNatClampNeg (some (ad v.toNat))))))))) → va_S K.A s.heap H1 locs1 →
      W p l e R s m args below meth c H1 locs1 (σ.2.2.1 - c0) (σ.2.2.2.1 - s0) Q (F0 m (pc + 1) lm ws1) := by
    intro H1 locs1 g1 g2 g3
    rw [zi_clamp r0, Int.toNat_natCast] at g1 g2
    have es : (zWS K false ad σ).set b (ad b, .inl (K.cA (zST b), (zYT b).toNat, .inr (.inr (.inr (.inr (va_up (zrw K false ad σ b) k (some (ad v.toNat)))))))) = zWS K false ad (σ.1, σ.2.1, σ.2.2.1, σ.2.2.2.1, σ.2.2.2.2.1, zupB σ.2.2.2.2.2 b (k : Int)) := by
      refine zWS_set rfl (fun q _ hba => zent_upB hba) ?_
      rw [zent_r hst2]
      congr 6
      congr 1
      funext q
      unfold va_up zrw
      dsimp only
      by_cases hq : q = k
      · subst hq
        rw [if_pos rfl]
        simp only [zupB_eq, Bool.false_or, if_true, hst, hv]
      · rw [if_neg hq]
        have e9 : zupB σ.2.2.2.2.2 (b : Int) (k : Int) b q = σ.2.2.2.2.2 b q := zupB_ni _ (by omega)
        simp only [e9]
    rw [es] at g1 g2
    refine G ad H1 locs1 lm _ _ (t + 1) hag hi hpc ⟨g1, g2, zWf_upB hwf hxn ⟨fun v' q1 q2 => by omega, fun _ => ?_⟩⟩ g3 hL hR3 hn hc hs
    rw [hst, hv]
    exact hvn
  rcases hr with ⟨rfl, rfl⟩ | ⟨rfl, rfl⟩
  · exact va_astq hx hb hcst.1 hP.1 hP.2.1 hS b 2 v.toNat 3 hat (by rw [hst]; rfl) hqk (zCl_at (by omega)) (by rw [← hy] at hin ⊢; exact hin) hd hfin
  · exact va_astq hx hb hcst.1 hP.1 hP.2.1 hS b 3 v.toNat 8 hat (by rw [hst]; rfl) hqk (zCl_at (by omega)) (by rw [← hy] at hin ⊢; exact hin) hd hfin
end ZN
