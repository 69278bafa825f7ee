/-! ## fields -/
def zGood : List Cond := lw_tbl.filter goodWord
theorem zGood_mem {w : Cond} (h : w ∈ lw_tbl ∧ goodWord w = true) : w ∈ zGood := List.mem_filter.mpr h
theorem zFL_rng : zFL.all (fun e => (Nat.blt e.2.2.1 704 && Nat.blt (e.2.2.1 % 64) (zNF (e.2.2.1 / 64))) || (Nat.ble 1000 e.2.2.1 && Nat.blt e.2.2.1 1004)) = true := by decide +kernel
theorem zFL_any {o i k : Nat} (h : zFL.any (fun e => Nat.beq e.1 o && Nat.beq e.2.1 i && Nat.beq e.2.2.1 k) = true) :
    ((Cond.fieldLink (zcn o) i (zfn k).1 (zfn k).2.1 (zfn k).2.2 ∈ lw_tbl ∧ goodWord (Cond.fieldLink (zcn o) i (zfn k).1 (zfn k).2.1 (zfn k).2.2) = true) ∨ Cond.fieldLinkNest (zcn o) i (zfn k).1 (zfn k).2.1 (zfn k).2.2 "CyclicLines" ∈ lw_tbl) ∧ ((k < 704 ∧ k % 64 < zNF (k / 64)) ∨ (1000 ≤ k ∧ k < 1004)) := by
  obtain ⟨q, hq, h1⟩ := List.any_eq_true.mp h
  simp only [Bool.and_eq_true, Nat.beq_eq_true_eq] at h1
  obtain ⟨⟨e1, e2⟩, e3⟩ := h1
  have e1 := Nat.eq_of_beq_eq_true e1
  have e2 := Nat.eq_of_beq_eq_true e2
  have e3 := Nat.eq_of_beq_eq_true e3
  subst e1 e2 e3
  have h2 := List.all_eq_true.mp zFL_ok q hq
  have h3 := List.all_eq_true.mp zFL_rng q hq
  refine ⟨?_, ?_⟩
  · unfold zFLc at h2
    split at h2
    · exact Or.inl (zgw_ok h2)
    · exact Or.inr (zbw_ok h2)
  · simpa [Bool.or_eq_true, Bool.and_eq_true, Nat.blt_eq, Nat.ble_eq] using h3
theorem zCl_at {ci : Nat} (h : ci < 11) : zCl[ci]? = some (zON ci, zTT ci, zNF ci) := by
  have : ci = 0 ∨ ci = 1 ∨ ci = 2 ∨ ci = 3 ∨ ci = 4 ∨ ci = 5 ∨ ci = 6 ∨ ci = 7 ∨ ci = 8 ∨ ci = 9 ∨ ci = 10 := by omega
  rcases this with rfl | rfl | rfl | rfl | rfl | rfl | rfl | rfl | rfl | rfl | rfl <;> rfl
theorem zLay_in {ci : Nat} (h : ci < 11) : ∀ w ∈ u_ws (zON ci) (zTT ci) (zNF ci), w ∈ zGood := by
  have e : ∀ w, (w ∈ tables_1 ∧ goodWord w = true) → w ∈ zGood := fun w hw => zGood_mem ⟨List.mem_append_right _ hw.1, hw.2⟩
  have : ci = 0 ∨ ci = 1 ∨ ci = 2 ∨ ci = 3 ∨ ci = 4 ∨ ci = 5 ∨ ci = 6 ∨ ci = 7 ∨ ci = 8 ∨ ci = 9 ∨ ci = 10 := by omega
  rcases this with rfl | rfl | rfl | rfl | rfl | rfl | rfl | rfl | rfl | rfl | rfl
  · exact fun w hw => e w (zLay0 w hw)
  · exact fun w hw => e w (zLay1 w hw)
  · exact fun w hw => e w (zLay2 w hw)
  · exact fun w hw => e w (zLay3 w hw)
  · exact fun w hw => e w (zLay4 w hw)
  · exact fun w hw => e w (zLay5 w hw)
  · exact fun w hw => e w (zLay6 w hw)
  · exact fun w hw => e w (zLay7 w hw)
  · exact fun w hw => e w (zLay8 w hw)
  · exact fun w hw => e w (zLay9 w hw)
  · exact fun w hw => e w (zLay10 w hw)
theorem zYok_in {ci : Nat} (h : ci < 11) : ∀ k, k < zNF ci → parseFieldDescriptor (zTT ci k).2.2.1 = some (zYY ci k) := by
  have : ci = 0 ∨ ci = 1 ∨ ci = 2 ∨ ci = 3 ∨ ci = 4 ∨ ci = 5 ∨ ci = 6 ∨ ci = 7 ∨ ci = 8 ∨ ci = 9 ∨ ci = 10 := by omega
  rcases this with rfl | rfl | rfl | rfl | rfl | rfl | rfl | rfl | rfl | rfl | rfl
  · exact zYok0
  · exact zYok1
  · exact zYok2
  · exact zYok3
  · exact zYok4
  · exact zYok5
  · exact zYok6
  · exact zYok7
  · exact zYok8
  · exact zYok9
  · exact zYok10
theorem zNm_in {ci : Nat} (h : ci < 11) : ∀ a, a < zNF ci → ∀ b, b < zNF ci → a ≠ b → (zTT ci a).2.1 ≠ (zTT ci b).2.1 := by
  have : ci = 0 ∨ ci = 1 ∨ ci = 2 ∨ ci = 3 ∨ ci = 4 ∨ ci = 5 ∨ ci = 6 ∨ ci = 7 ∨ ci = 8 ∨ ci = 9 ∨ ci = 10 := by omega
  rcases this with rfl | rfl | rfl | rfl | rfl | rfl | rfl | rfl | rfl | rfl | rfl
  · exact zNm0
  · exact zNm1
  · exact zNm2
  · exact zNm3
  · exact zNm4
  · exact zNm5
  · exact zNm6
  · exact zNm7
  · exact zNm8
  · exact zNm9
  · exact zNm10
theorem zfd_none (c s : Nat) (a y a' y' : Int) : zfd c s a y = none → zfd c s a' y' = none := by
  unfold zfd
  split <;> split <;> simp
/-- a number field is an int or a truth value and not final -/
def zintc (c s : Nat) : Bool := match zfd c s 0 0 with
  | some _ => (match zYY c s with
    | .object _ => true
    | .array _ => true
    | _ => false) && (zTT c s).2.2.2
  | none => decide (zYY c s = (if zfz c s then .boolean else .int)) && !(zTT c s).2.2.2
theorem zint_all : (List.range 11).all (fun c => (List.range (zNF c)).all (fun s => zintc c s)) = true := by decide +kernel
theorem zint_ok {c s : Nat} (hc : c < 11) (hs : s < zNF c) : zintc c s = true := List.all_eq_true.mp (List.all_eq_true.mp zint_all c (List.mem_range.mpr hc)) s (List.mem_range.mpr hs)
theorem zfn_lt {k : Nat} (h : k < 704) : zfn k = ((zTT (k / 64) (k % 64)).1, (zTT (k / 64) (k % 64)).2.1, (zTT (k / 64) (k % 64)).2.2.1) := by
  unfold zfn
  have : Nat.ble 1000 k = false := by
    cases hb : Nat.ble 1000 k with
    | false => rfl
    | true => have := Nat.le_of_ble_eq_true hb; omega
  rw [this]
theorem zup_ne {f : Int → Int → Int} {a k v b : Int} (h : b ≠ a) (i : Int) : zup f a k v b i = f b i := by simp [zup, h]
theorem zup_eq {f : Int → Int → Int} {a k v : Int} : zup f a k v a k = v := by simp [zup]
theorem zup_ni {f : Int → Int → Int} {a k v i : Int} (b : Int) (h : i ≠ k) : zup f a k v b i = f b i := by simp [zup, h]
theorem zent_up {K : zCx} {ph : Bool} {ad : Nat → Nat} {σ : zS} {a b : Nat} {k v : Int} (h : b ≠ a) : zent K ph ad (zup σ.1 a k v, σ.2) b = zent K ph ad σ b := by
  have e : ∀ i : Int, zup σ.1 a k v b i = σ.1 b i := fun i => zup_ne (by omega) i
  unfold zent zfv zrw zwr
  simp only [e]
theorem zWf_up {ph : Bool} {σ : zS} {a : Nat} {k v : Int} (h : zWf ph σ) (ha : a < σ.2.2.2.2.1) (hv : if (a : Int) = 1478 then zI64 v else zI32 v) : zWf ph (zup σ.1 a k v, σ.2) := by
  obtain ⟨h1, h2, h3, h4, h5, h6, h7⟩ := h
  refine ⟨fun b i => ?_, h2, h3, h4, fun b i hb => ?_, h6, h7⟩
  · by_cases hab : b = (a : Int) ∧ i = k
    · obtain ⟨rfl, rfl⟩ := hab
      simp only [zup_eq]
      exact hv
    · have : zup σ.1 a k v b i = σ.1 b i := by simp only [zup, if_neg hab]
      simp only [this]
      exact h1 b i
  · have h8 := h5 b i hb
    have hb' : (σ.2.2.2.2.1 : Int) ≤ b := hb
    exact ⟨by rw [show ((zup σ.1 a k v, σ.2) : zS).1 b i = σ.1 b i from zup_ne (by omega) i]; exact h8.1, h8.2⟩
section ZM
variable {p : Program} {l : Launch} {e : Env} {R : Room} {s : State} {m : MethodId} {args : Array Value} {below : List Frame} {meth : Method} {c : Code} {Q : State → Prop} {K : zCx} {ph : Bool} {j d : Nat} {ad0 : Nat → Nat} {n0 c0 s0 : Nat}
variable {is : zL} {ls st : List zV} {σ : zS} {ad : Nat → Nat} {H : Heap} {locs : List Loc} {lm : Array Slot} {sm : List Value} {pc t : Nat}
/-- what stands at an object's field is what the abstract machine reads -/
theorem zfv_rel (hP : zPic K ph ad σ H) {a ci k : Nat} (ha : a < σ.2.2.2.2.1) (ht : zST a = 10 + ci) (hci : ci < 11) (hk : k < zNF ci) :
    (zfd ci k a (zYT a) = none → zRel K ad σ.2.2.2.2.1 (0, σ.1 a k, 0) (zfv K ph ad σ a k)) ∧ (∀ v, zfd ci k a (zYT a) = some v → (ph || σ.2.2.2.2.2 a k) = true → zRel K ad σ.2.2.2.2.1 v (zfv K ph ad σ a k)) := by
  obtain ⟨-, -, hw⟩ := hP
  obtain ⟨h1, h2, h3, h4, h5, h6, h7⟩ := hw
  have hci2 : zST a - 10 = ci := by omega
  have hz := zST_ok (show a < 1479 by omega)
  refine ⟨fun h => ?_, fun v h hp => ?_⟩
  · unfold zfv
    rw [hci2, h]
    refine ⟨rfl, ?_⟩
    have := h1 a k
    rwa [if_neg (show ¬ (a : Int) = 1478 by omega)] at this
  · have hv := zfd_ok (t := 10 + ci) (show a < 1479 by omega) ht (by omega) (show k < zNF (10 + ci - 10) by rw [Nat.add_sub_cancel_left]; exact hk) (show zfd (10 + ci - 10) k a (zYT a) = some v by rw [Nat.add_sub_cancel_left]; exact h)
    obtain ⟨v1, v2, v3, v4, v5, v6⟩ := hv
    unfold zfv
    rw [hci2, h]
    simp only [hp, if_true]
    have hlt : v.2.1.toNat < σ.2.2.2.2.1 := by
      cases ph with
      | true => rw [h4 rfl]; exact v4
      | false =>
        simp only [Bool.false_or] at hp
        exact (h7 a k v hp).1 (by omega) (by rw [hci2]; exact h)
    obtain ⟨t9, x9, y9⟩ := v
    exact (zRel_o v1 v2).mpr ⟨rfl, v1, v2, v3, hlt, v5, v6⟩
/-- getfield of an own object -/
theorem zs_getfield {i k u : Nat} {x y : Int} {v : zV} (hd : decode (zmb j) pc = .ok (.getfield i, 3)) (hl : zFL.any (fun e => Nat.beq e.1 (zmo j) && Nat.beq e.2.1 i && Nat.beq e.2.2.1 k) = true) (hu : u = 10 + k / 64) (hk9 : k < 1000)
    (hv : (zfd (k / 64) (k % 64) x y = none ∧ v = (0, σ.1 x (k % 64 : Nat), 0)) ∨ (zfd (k / 64) (k % 64) x y = some v ∧ (ph || σ.2.2.2.2.2 x (k % 64 : Nat)) = true))
    (C : zAct p l R s m args meth c K j d) (hag : zag ad0 ad n0) (hi : is = zdrop (zmc j).1 (t + 1)) (hpc : is = [] ∨ (zpc j)[t + 1]? = some (pc + 3)) (hP : zPic K ph ad σ H) (hS : va_S K.A s.heap H locs) (hL : zLoc K ad σ.2.2.2.2.1 lm (zml j) ls) (hR : zRels K ad σ.2.2.2.2.1 ((u, x, y) :: st) sm) (hn : n0 ≤ σ.2.2.2.2.1) (hc : c0 ≤ σ.2.2.1) (hs : s0 ≤ σ.2.2.2.1)
    (G : zGo p l e R s m args below meth c Q K ph j ad0 n0 c0 s0 is ls (v :: st) σ) : W p l e R s m args below meth c H locs (σ.2.2.1 - c0) (σ.2.2.2.1 - s0) Q (F0 m pc lm sm) := by
  obtain ⟨hx, hb, hml, hown, hts, hcst, -⟩ := C
  obtain ⟨hw, hkr⟩ := zFL_any hl
  have hk : k < 704 ∧ k % 64 < zNF (k / 64) := by omega
  have hci : k / 64 < 11 := by omega
  obtain ⟨w1, ws1, rfl, r1, hR1⟩ := zRels_cons hR
  obtain ⟨rfl, h10, h35, hx0, hxn, hst, hy⟩ := (zRel_o (by omega) (by omega)).mp r1
  obtain ⟨a, rfl⟩ : ∃ a : Nat, x = (a : Int) := ⟨x.toNat, by omega⟩
  simp only [Int.toNat_natCast] at hxn hst hy ⊢
  rw [hu] at hst
  have hr := zfv_rel (k := k % 64) hP hxn hst hci hk.2
  have hrel : zRel K ad σ.2.2.2.2.1 v (zfv K ph ad σ a (k % 64)) := by
    rcases hv with ⟨h1, rfl⟩ | ⟨h1, h2⟩
    · exact hr.1 (by rw [← hy]; exact h1)
    · exact hr.2 v (by rw [← hy]; exact h1) h2
  have hat : (zWS K ph ad σ)[a]? = some (ad a, .inr (k / 64, (List.range (zNF (k / 64))).map (fun q => zfv K ph ad σ a q))) := by
    rw [zWS_at hxn, zent_o hst (by omega), Nat.add_sub_cancel_left]
  have hvv : ((List.range (zNF (k / 64))).map (fun q => zfv K ph ad σ a q))[k % 64]? = some (zfv K ph ad σ a (k % 64)) := by
    rw [List.getElem?_map, List.getElem?_range hk.2]; rfl
  rw [zfn_lt hk.1] at hw
  have fin : W p l e R s m args below meth c H locs (σ.2.2.1 - c0) (σ.2.2.2.1 - s0) Q (F0 m (pc + 3) lm (zfv K ph ad σ a (k % 64) :: ws1)) := G ad H locs lm _ _ (t + 1) hag hi hpc hP hS hL ⟨hrel, hR1⟩ hn hc hs
  rcases hw with hw | hw
  · exact va_get (Ts := zGood) hx hb (fun w h => hts w (List.mem_filter.mp h).1 (List.mem_filter.mp h).2) (zLay_in hci) hown hcst.1 hP.1 a hat (zCl_at hci) (k % 64) hk.2 (hts _ hw.1 hw.2) (fun _ h => h) hvv hd fin
  · exact va_getN (Ts := zGood) hx hb (fun w h => hts w (List.mem_filter.mp h).1 (List.mem_filter.mp h).2) (zLay_in hci) hown hcst.1 hP.1 a hat (zCl_at hci) (k % 64) hk.2 ((hcst.2.1 _ hw rfl).use rfl) (fun _ h => h) hvv hd fin
/-- putfield of a number -/
theorem zs_putfield {i k u : Nat} {x y v z : Int} (hd : decode (zmb j) pc = .ok (.putfield i, 3)) (hl : zFL.any (fun e => Nat.beq e.1 (zmo j) && Nat.beq e.2.1 i && Nat.beq e.2.2.1 k) = true) (hu : u = 10 + k / 64) (hk9 : k < 1000)
    (hv : zfd (k / 64) (k % 64) x y = none) (hz : zfz (k / 64) (k % 64) = true → 0 ≤ v ∧ v < 2)
    (C : zAct p l R s m args meth c K j d) (hag : zag ad0 ad n0) (hi : is = zdrop (zmc j).1 (t + 1)) (hpc : is = [] ∨ (zpc j)[t + 1]? = some (pc + 3)) (hP : zPic K ph ad σ H) (hS : va_S K.A s.heap H locs) (hL : zLoc K ad σ.2.2.2.2.1 lm (zml j) ls) (hR : zRels K ad σ.2.2.2.2.1 ((0, v, z) :: (u, x, y) :: st) sm) (hn : n0 ≤ σ.2.2.2.2.1) (hc : c0 ≤ σ.2.2.1) (hs : s0 ≤ σ.2.2.2.1)
    (G : zGo p l e R s m args below meth c Q K ph j ad0 n0 c0 s0 is ls st (zup σ.1 x (k % 64 : Nat) v, σ.2)) : W p l e R s m args below meth c H locs (σ.2.2.1 - c0) (σ.2.2.2.1 - s0) Q (F0 m pc lm sm) := by
  obtain ⟨hx, hb, hml, hown, hts, hcst, -⟩ := C
  obtain ⟨hw, hkr⟩ := zFL_any hl
  have hk : k < 704 ∧ k % 64 < zNF (k / 64) := by omega
  have hci : k / 64 < 11 := by omega
  obtain ⟨w0, ws0, rfl, ⟨rfl, r0⟩, hR1⟩ := zRels_cons hR
  obtain ⟨w1, ws1, rfl, r1, hR2⟩ := zRels_cons hR1
  obtain ⟨rfl, h10, h35, hx0, hxn, hst, hy⟩ := (zRel_o (by omega) (by omega)).mp r1
  obtain ⟨a, rfl⟩ : ∃ a : Nat, x = (a : Int) := ⟨x.toNat, by omega⟩
  simp only [Int.toNat_natCast] at hxn hst hy ⊢
  rw [hu] at hst
  have hat : (zWS K ph ad σ)[a]? = some (ad a, .inr (k / 64, (List.range (zNF (k / 64))).map (fun q => zfv K ph ad σ a q))) := by
    rw [zWS_at hxn, zent_o hst (by omega), Nat.add_sub_cancel_left]
  have hwf := hP.2.2
  have ha1479 : a < 1479 := by have := hwf.2.2.1; omega
  have hzs := zST_ok ha1479
  have hzi := zint_ok hci hk.2
  unfold zintc at hzi
  rw [zfd_none _ _ _ _ 0 0 hv] at hzi
  simp only [Bool.and_eq_true, decide_eq_true_eq, Bool.not_eq_true'] at hzi
  have hpd := zYok_in hci (k % 64) hk.2
  rw [hzi.1] at hpd
  have hset : ∀ H1, va_P K.D zCl ((zWS K ph ad σ).set a (ad a, .inr (k / 64, ((List.range (zNF (k / 64))).map (fun q => zfv K ph ad σ a q)).set (k % 64) (.int (Int32.ofInt v))))) H1 → va_D K.A ((zWS K ph ad σ).set a (ad a, .inr (k / 64, ((List.range (zNF (k / 64))).map (fun q => zfv K ph ad σ a q)).set (k % 64) (.int (Int32.ofInt v))))) → zPic K ph ad (zup σ.1 a (k % 64 : Nat) v, σ.2) H1 := by
    intro H1 g1 g2
    have es : (zWS K ph ad σ).set a (ad a, .inr (k / 64, ((List.range (zNF (k / 64))).map (fun q => zfv K ph ad σ a q)).set (k % 64) (.int (Int32.ofInt v)))) = zWS K ph ad (zup σ.1 a (k % 64 : Nat) v, σ.2) := by
      refine zWS_set rfl (fun b _ hba => zent_up hba) ?_
      rw [zent_o hst (by omega), Nat.add_sub_cancel_left]
      congr 2
      apply List.ext_getElem?
      intro q
      rw [List.getElem?_set, List.getElem?_map, List.getElem?_map]
      by_cases hq : q < zNF (k / 64)
      · rw [List.getElem?_range hq]
        simp only [Option.map_some]
        by_cases hqk : k % 64 = q
        · rw [if_pos hqk]
          subst hqk
          simp only [List.length_map, List.length_range, hq, if_true]
          unfold zfv
          rw [show zST a - 10 = k / 64 by omega, show zfd (k / 64) (k % 64) a (zYT a) = none from zfd_none _ _ _ _ _ _ hv]
          simp only [zup_eq]
        · rw [if_neg hqk]
          unfold zfv
          have : zup σ.1 a (k % 64 : Nat) v a q = σ.1 a q := zup_ni _ (by omega)
          simp only [this]
      · rw [List.getElem?_eq_none (by simp; omega)]
        rw [if_neg (by omega)]
        rfl
    rw [es] at g1 g2
    exact ⟨g1, g2, zWf_up hwf hxn (by rw [if_neg (by omega)]; exact r0)⟩
  have fin : ∀ (H1 : Heap) (locs1 : List Loc), va_P K.D zCl ((zWS K ph ad σ).set a (ad a, .inr (k / 64, ((List.range (zNF (k / 64))).map (fun q => zfv K ph ad σ a q)).set (k % 64) (.int (Int32.ofInt v))))) H1 → va_D K.A ((zWS K ph ad σ).set a (ad a, .inr (k / 64, ((List.range (zNF (k / 64))).map (fun q => zfv K ph ad σ a q)).set (k % 64) (.int (Int32.ofInt v))))) → va_S K.A s.heap H1 locs1 →
      W p l e R s m args below meth c H1 locs1 (σ.2.2.1 - c0) (σ.2.2.2.1 - s0) Q (F0 m (pc + 3) lm ws1) := fun H1 locs1 g1 g2 g3 => G ad H1 locs1 lm _ _ (t + 1) hag hi hpc (hset H1 g1 g2) g3 hL hR2 hn hc hs
  have hn1 : narrow (if zfz (k / 64) (k % 64) = true then FieldType.boolean else .int) (.int (Int32.ofInt v)) = .int (Int32.ofInt v) ∧ fits (if zfz (k / 64) (k % 64) = true then FieldType.boolean else .int) (.int (Int32.ofInt v)) = true := by
    by_cases hz1 : zfz (k / 64) (k % 64) = true
    · rw [if_pos hz1]
      have : v = 0 ∨ v = 1 := by have := hz hz1; omega
      rcases this with rfl | rfl <;> exact ⟨rfl, rfl⟩
    · rw [if_neg hz1]
      exact ⟨rfl, rfl⟩
  rw [zfn_lt hk.1] at hw
  rcases hw with hw | hw
  · exact va_put (Ts := zGood) hx hb (fun w h => hts w (List.mem_filter.mp h).1 (List.mem_filter.mp h).2) (zLay_in hci) (zYY (k / 64)) (zYok_in hci) (zNm_in hci) hown hcst.1 hP.1 hP.2.1 hS a hat (zCl_at hci) (k % 64) hk.2 (hts _ hw.1 hw.2) (fun _ h => h) hzi.2 hpd hn1.1 hn1.2 (by simp; exact hk.2) hd fin
  · exact va_putN (Ts := zGood) hx hb (fun w h => hts w (List.mem_filter.mp h).1 (List.mem_filter.mp h).2) (zLay_in hci) (zYY (k / 64)) (zYok_in hci) (zNm_in hci) hown hcst.1 hP.1 hP.2.1 hS a hat (zCl_at hci) (k % 64) hk.2 ((hcst.2.1 _ hw rfl).use rfl) (fun _ h => h) hzi.2 hpd hn1.1 hn1.2 (by simp; exact hk.2) hd fin
end ZM
