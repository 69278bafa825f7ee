/-! ## rows -/
section ZR
variable {p : Program} {l : Launch} {e : Env} {R : Room} {s : State} {m : MethodId} {args : Array Value} {below : List Frame} {meth : Method} {c : Code} {Q : State → Prop} {K : zCx} {ph : Bool} {j d : Nat} {ad0 : Nat → Nat} {n0 c0 s0 : Nat}
variable {is : zL} {ls st : List zV} {σ : zS} {ad : Nat → Nat} {H : Heap} {locs : List Loc} {lm : Array Slot} {sm : List Value} {pc t : Nat}
theorem zyt_rel {y : Int} (h0 : 0 ≤ y) (h : y < 65536) : zRel K ad σ.2.2.2.2.1 (0, y, 0) (.int (Int32.ofNat y.toNat)) := by
  refine ⟨?_, ⟨by omega, by omega⟩⟩
  rw [zi_ofNat, Int.toNat_of_nonneg h0]
theorem zs_arraylength {u : Nat} {x y : Int} (hd : decode (zmb j) pc = .ok (.arraylength, 1)) (hu : u = 30 ∨ u = 32 ∨ u = 33 ∨ u = 34)
    (C : zAct p l R s m args meth c K j d) (hag : zag ad0 ad n0) (hi : is = zdrop (zmc j).1 (t + 1)) (hpc : is = [] ∨ (zpc j)[t + 1]? = some (pc + 1)) (hP : zPic K ph ad σ H) (hS : va_S K.A s.heap H locs) (hL : zLoc K ad σ.2.2.2.2.1 lm (zml j) ls) (hR : zRels K ad σ.2.2.2.2.1 ((u, x, y) :: st) sm) (hn : n0 ≤ σ.2.2.2.2.1) (hc : c0 ≤ σ.2.2.1) (hs : s0 ≤ σ.2.2.2.1)
    (G : zGo p l e R s m args below meth c Q K ph j ad0 n0 c0 s0 is ls ((0, y, 0) :: st) σ) : W p l e R s m args below meth c H locs (σ.2.2.1 - c0) (σ.2.2.2.1 - s0) Q (F0 m pc lm sm) := by
  obtain ⟨hx, hb, hml, hown, hts, hcst, -⟩ := C
  obtain ⟨w1, ws1, rfl, r1, hR1⟩ := zRels_cons hR
  obtain ⟨rfl, h10, h35, hx0, hxn, hst, hy⟩ := (zRel_o (by omega) (by omega)).mp r1
  have hz := zST_ok (show x.toNat < 1479 by have := hP.2.2.2.2.1; omega)
  have fin : W p l e R s m args below meth c H locs (σ.2.2.1 - c0) (σ.2.2.2.1 - s0) Q (F0 m (pc + 1) lm (.int (Int32.ofNat (zYT x.toNat).toNat) :: ws1)) := G ad H locs lm _ _ (t + 1) hag hi hpc hP hS hL ⟨by rw [hy]; exact zyt_rel hz.2.2.2.1 hz.2.2.2.2.1, hR1⟩ hn hc hs
  have hat := zWS_at (K := K) (ph := ph) (ad := ad) hxn
  rcases hu with rfl | rfl | rfl | rfl
  · rw [zent_i hst] at hat
    exact va_alen hx hb hcst.1 hP.1 x.toNat 0 hat rfl rfl hd fin
  · rw [zent_r (Or.inl hst), hst] at hat
    exact va_alen hx hb hcst.1 hP.1 x.toNat 2 hat rfl rfl hd fin
  · rw [zent_r (Or.inr hst), hst] at hat
    exact va_alen hx hb hcst.1 hP.1 x.toNat 3 hat rfl rfl hd fin
  · rw [zent_w hst] at hat
    exact va_alen hx hb hcst.1 hP.1 x.toNat 4 hat rfl rfl hd fin
theorem zs_slen {x y : Int} (hd : decode (zmb j) pc = .ok (.arraylength, 1)) (hLK : K.L ≤ 3072)
    (C : zAct p l R s m args meth c K j d) (hag : zag ad0 ad n0) (hi : is = zdrop (zmc j).1 (t + 1)) (hpc : is = [] ∨ (zpc j)[t + 1]? = some (pc + 1)) (hP : zPic K ph ad σ H) (hS : va_S K.A s.heap H locs) (hL : zLoc K ad σ.2.2.2.2.1 lm (zml j) ls) (hR : zRels K ad σ.2.2.2.2.1 ((8, x, y) :: st) sm) (hn : n0 ≤ σ.2.2.2.2.1) (hc : c0 ≤ σ.2.2.1) (hs : s0 ≤ σ.2.2.2.1)
    (G : zGo p l e R s m args below meth c Q K ph j ad0 n0 c0 s0 is ls ((0, (K.L : Int), 0) :: st) σ) : W p l e R s m args below meth c H locs (σ.2.2.1 - c0) (σ.2.2.2.1 - s0) Q (F0 m pc lm sm) := by
  obtain ⟨hx, hb, hml, hown, hts, hcst, -⟩ := C
  obtain ⟨w1, ws1, rfl, rfl, hR1⟩ := zRels_cons hR
  obtain ⟨g1, g2, g3⟩ := hcst.2.2.2.2.2.2.2.2.2.2.2.2.1
  refine va_slen hx hb g1 g2 g3 hS hd ?_
  exact G ad H locs lm _ _ (t + 1) hag hi hpc hP hS hL ⟨⟨by rw [zi_ofNat], ⟨by omega, by omega⟩⟩, hR1⟩ hn hc hs
theorem zs_sld {x y i z : Int} (hd : decode (zmb j) pc = .ok (.iaload, 1)) (h0 : 0 ≤ i) (hiL : i < (K.L : Int)) (hLK : K.L ≤ 3072)
    (C : zAct p l R s m args meth c K j d) (hag : zag ad0 ad n0) (hi : is = zdrop (zmc j).1 (t + 1)) (hpc : is = [] ∨ (zpc j)[t + 1]? = some (pc + 1)) (hP : zPic K ph ad σ H) (hS : va_S K.A s.heap H locs) (hL : zLoc K ad σ.2.2.2.2.1 lm (zml j) ls) (hR : zRels K ad σ.2.2.2.2.1 ((0, i, z) :: (8, x, y) :: st) sm) (hn : n0 ≤ σ.2.2.2.2.1) (hc : c0 ≤ σ.2.2.1) (hs : s0 ≤ σ.2.2.2.1)
    (G : zGo p l e R s m args below meth c Q K ph j ad0 n0 c0 s0 is ls ((0, (K.xs i.toNat).toInt, 0) :: st) σ) : W p l e R s m args below meth c H locs (σ.2.2.1 - c0) (σ.2.2.2.1 - s0) Q (F0 m pc lm sm) := by
  obtain ⟨hx, hb, hml, hown, hts, hcst, -⟩ := C
  obtain ⟨w0, ws0, rfl, ⟨rfl, r0⟩, hR1⟩ := zRels_cons hR
  obtain ⟨w1, ws1, rfl, rfl, hR2⟩ := zRels_cons hR1
  obtain ⟨g1, g2, g3⟩ := hcst.2.2.2.2.2.2.2.2.2.2.2.2.1
  refine va_sld hx hb g1 g2 g3 hS (by have := zi_in r0 h0 hiL; rwa [Int.toNat_natCast] at this) hd ?_
  rw [zi_clamp r0]
  exact G ad H locs lm _ _ (t + 1) hag hi hpc hP hS hL ⟨⟨by rw [zi_of], zi_rng _⟩, hR2⟩ hn hc hs
theorem zs_iaload {x y i z : Int} (hd : decode (zmb j) pc = .ok (.iaload, 1)) (h0 : 0 ≤ i) (hiy : i < y)
    (C : zAct p l R s m args meth c K j d) (hag : zag ad0 ad n0) (hi : is = zdrop (zmc j).1 (t + 1)) (hpc : is = [] ∨ (zpc j)[t + 1]? = some (pc + 1)) (hP : zPic K ph ad σ H) (hS : va_S K.A s.heap H locs) (hL : zLoc K ad σ.2.2.2.2.1 lm (zml j) ls) (hR : zRels K ad σ.2.2.2.2.1 ((0, i, z) :: (30, x, y) :: st) sm) (hn : n0 ≤ σ.2.2.2.2.1) (hc : c0 ≤ σ.2.2.1) (hs : s0 ≤ σ.2.2.2.1)
    (G : zGo p l e R s m args below meth c Q K ph j ad0 n0 c0 s0 is ls ((0, σ.1 x i, 0) :: st) σ) : W p l e R s m args below meth c H locs (σ.2.2.1 - c0) (σ.2.2.2.1 - s0) Q (F0 m pc lm sm) := by
  obtain ⟨hx, hb, hml, hown, hts, hcst, -⟩ := C
  obtain ⟨w0, ws0, rfl, ⟨rfl, r0⟩, hR1⟩ := zRels_cons hR
  obtain ⟨w1, ws1, rfl, r1, hR2⟩ := zRels_cons hR1
  obtain ⟨rfl, h10, h35, hx0, hxn, hst, hy⟩ := (zRel_o (by omega) (by omega)).mp r1
  have hz := zST_ok (show x.toNat < 1479 by have := hP.2.2.2.2.1; omega)
  have hat := zWS_at (K := K) (ph := ph) (ad := ad) hxn
  rw [zent_i hst] at hat
  refine va_iald hx hb hcst.1 hP.1 x.toNat 0 hat rfl (by rw [← hy]; exact zi_in r0 h0 hiy) hd ?_
  rw [zi_clamp r0, Int.toNat_of_nonneg hx0, Int.toNat_of_nonneg h0]
  refine G ad H locs lm _ _ (t + 1) hag hi hpc hP hS hL ⟨⟨rfl, ?_⟩, hR2⟩ hn hc hs
  have := hP.2.2.1 x i
  rwa [if_neg (by omega)] at this
theorem zs_laload {x y i z : Int} (hd : decode (zmb j) pc = .ok (.laload, 1)) (h0 : 0 ≤ i) (hiy : i < y)
    (C : zAct p l R s m args meth c K j d) (hag : zag ad0 ad n0) (hi : is = zdrop (zmc j).1 (t + 1)) (hpc : is = [] ∨ (zpc j)[t + 1]? = some (pc + 1)) (hP : zPic K ph ad σ H) (hS : va_S K.A s.heap H locs) (hL : zLoc K ad σ.2.2.2.2.1 lm (zml j) ls) (hR : zRels K ad σ.2.2.2.2.1 ((0, i, z) :: (31, x, y) :: st) sm) (hn : n0 ≤ σ.2.2.2.2.1) (hc : c0 ≤ σ.2.2.1) (hs : s0 ≤ σ.2.2.2.1)
    (G : zGo p l e R s m args below meth c Q K ph j ad0 n0 c0 s0 is ls ((1, σ.1 x i, 0) :: st) σ) : W p l e R s m args below meth c H locs (σ.2.2.1 - c0) (σ.2.2.2.1 - s0) Q (F0 m pc lm sm) := by
  obtain ⟨hx, hb, hml, hown, hts, hcst, -⟩ := C
  obtain ⟨w0, ws0, rfl, ⟨rfl, r0⟩, hR1⟩ := zRels_cons hR
  obtain ⟨w1, ws1, rfl, r1, hR2⟩ := zRels_cons hR1
  obtain ⟨rfl, h10, h35, hx0, hxn, hst, hy⟩ := (zRel_o (by omega) (by omega)).mp r1
  have hz := zST_ok (show x.toNat < 1479 by have := hP.2.2.2.2.1; omega)
  have hat := zWS_at (K := K) (ph := ph) (ad := ad) hxn
  rw [zent_l hst] at hat
  refine va_lald hx hb hcst.1 hP.1 x.toNat 1 hat rfl (by rw [← hy]; exact zi_in r0 h0 hiy) hd ?_
  rw [zi_clamp r0, Int.toNat_of_nonneg hx0, Int.toNat_of_nonneg h0]
  refine G ad H locs lm _ _ (t + 1) hag hi hpc hP hS hL ⟨⟨rfl, ?_⟩, hR2⟩ hn hc hs
  have := hP.2.2.1 x i
  rwa [if_pos (by omega)] at this
theorem zs_iastore {x y i z v a : Int} (hd : decode (zmb j) pc = .ok (.iastore, 1)) (h0 : 0 ≤ i) (hiy : i < y)
    (C : zAct p l R s m args meth c K j d) (hag : zag ad0 ad n0) (hi : is = zdrop (zmc j).1 (t + 1)) (hpc : is = [] ∨ (zpc j)[t + 1]? = some (pc + 1)) (hP : zPic K ph ad σ H) (hS : va_S K.A s.heap H locs) (hL : zLoc K ad σ.2.2.2.2.1 lm (zml j) ls) (hR : zRels K ad σ.2.2.2.2.1 ((0, v, a) :: (0, i, z) :: (30, x, y) :: st) sm) (hn : n0 ≤ σ.2.2.2.2.1) (hc : c0 ≤ σ.2.2.1) (hs : s0 ≤ σ.2.2.2.1)
    (G : zGo p l e R s m args below meth c Q K ph j ad0 n0 c0 s0 is ls st (zup σ.1 x i v, σ.2)) : W p l e R s m args below meth c H locs (σ.2.2.1 - c0) (σ.2.2.2.1 - s0) Q (F0 m pc lm sm) := by
  obtain ⟨hx, hb, hml, hown, hts, hcst, -⟩ := C
  obtain ⟨w9, ws9, rfl, ⟨rfl, r9⟩, hR1⟩ := zRels_cons hR
  obtain ⟨w0, ws0, rfl, ⟨rfl, r0⟩, hR2⟩ := zRels_cons hR1
  obtain ⟨w1, ws1, rfl, r1, hR3⟩ := zRels_cons hR2
  obtain ⟨rfl, h10, h35, hx0, hxn, hst, hy⟩ := (zRel_o (by omega) (by omega)).mp r1
  have hz := zST_ok (show x.toNat < 1479 by have := hP.2.2.2.2.1; omega)
  obtain ⟨b, rfl⟩ : ∃ b : Nat, x = (b : Int) := ⟨x.toNat, by omega⟩
  obtain ⟨k, rfl⟩ : ∃ k : Nat, i = (k : Int) := ⟨i.toNat, by omega⟩
  simp only [Int.toNat_natCast] at hxn hst hy hz ⊢
  have hat := zWS_at (K := K) (ph := ph) (ad := ad) hxn
  rw [zent_i hst] at hat
  refine va_iast hx hb hcst.1 hP.1 hP.2.1 hS b 0 hat rfl (by rw [← hy]; exact zi_in r0 h0 hiy) hd (fun H1 locs1 g1 g2 g3 => ?_)
  rw [zi_clamp r0, Int.toNat_natCast] at g1 g2
  have es : (zWS K ph ad σ).set b (ad b, .inl (K.cA 30, (zYT b).toNat, .inl (upd (fun q => Int32.ofInt (σ.1 b q)) k (Int32.ofInt v)))) = zWS K ph ad (zup σ.1 b k v, σ.2) := by
    refine zWS_set rfl (fun q _ hba => zent_up hba) ?_
    rw [zent_i hst]
    congr 3
    congr 1
    funext q
    unfold upd
    by_cases hq : q = k
    · subst hq
      simp only [zup_eq, if_true]
    · rw [if_neg hq]
      have : zup σ.1 b k v b q = σ.1 b q := zup_ni _ (by omega)
      simp only [this]
  rw [es] at g1 g2
  exact G ad H1 locs1 lm _ _ (t + 1) hag hi hpc ⟨g1, g2, zWf_up hP.2.2 hxn (by rw [if_neg (by omega)]; exact r9)⟩ g3 hL hR3 hn hc hs
theorem zs_lastore {x y i z v a : Int} (hd : decode (zmb j) pc = .ok (.lastore, 1)) (h0 : 0 ≤ i) (hiy : i < y)
    (C : zAct p l R s m args meth c K j d) (hag : zag ad0 ad n0) (hi : is = zdrop (zmc j).1 (t + 1)) (hpc : is = [] ∨ (zpc j)[t + 1]? = some (pc + 1)) (hP : zPic K ph ad σ H) (hS : va_S K.A s.heap H locs) (hL : zLoc K ad σ.2.2.2.2.1 lm (zml j) ls) (hR : zRels K ad σ.2.2.2.2.1 ((1, v, a) :: (0, i, z) :: (31, x, y) :: st) sm) (hn : n0 ≤ σ.2.2.2.2.1) (hc : c0 ≤ σ.2.2.1) (hs : s0 ≤ σ.2.2.2.1)
    (G : zGo p l e R s m args below meth c Q K ph j ad0 n0 c0 s0 is ls st (zup σ.1 x i v, σ.2)) : W p l e R s m args below meth c H locs (σ.2.2.1 - c0) (σ.2.2.2.1 - s0) Q (F0 m pc lm sm) := by
  obtain ⟨hx, hb, hml, hown, hts, hcst, -⟩ := C
  obtain ⟨w9, ws9, rfl, ⟨rfl, r9⟩, hR1⟩ := zRels_cons hR
  obtain ⟨w0, ws0, rfl, ⟨rfl, r0⟩, hR2⟩ := zRels_cons hR1
  obtain ⟨w1, ws1, rfl, r1, hR3⟩ := zRels_cons hR2
  obtain ⟨rfl, h10, h35, hx0, hxn, hst, hy⟩ := (zRel_o (by omega) (by omega)).mp r1
  have hz := zST_ok (show x.toNat < 1479 by have := hP.2.2.2.2.1; omega)
  obtain ⟨b, rfl⟩ : ∃ b : Nat, x = (b : Int) := ⟨x.toNat, by omega⟩
  obtain ⟨k, rfl⟩ : ∃ k : Nat, i = (k : Int) := ⟨i.toNat, by omega⟩
  simp only [Int.toNat_natCast] at hxn hst hy hz ⊢
  have hat := zWS_at (K := K) (ph := ph) (ad := ad) hxn
  rw [zent_l hst] at hat
  refine va_last hx hb hcst.1 hP.1 hP.2.1 hS b 1 hat rfl (by rw [← hy]; exact zi_in r0 h0 hiy) hd (fun H1 locs1 g1 g2 g3 => ?_)
  rw [zi_clamp r0, Int.toNat_natCast] at g1 g2
  have es : (zWS K ph ad σ).set b (ad b, .inl (K.cA 31, (zYT b).toNat, .inr (.inl (vp_updL (fun q => Int64.ofInt (σ.1 b q)) k (Int64.ofInt v))))) = zWS K ph ad (zup σ.1 b k v, σ.2) := by
    refine zWS_set rfl (fun q _ hba => zent_up hba) ?_
    rw [zent_l hst]
    congr 4
    congr 1
    funext q
    unfold vp_updL
    by_cases hq : q = k
    · subst hq
      simp only [zup_eq, if_true]
    · rw [if_neg hq]
      have : zup σ.1 b k v b q = σ.1 b q := zup_ni _ (by omega)
      simp only [this]
  rw [es] at g1 g2
  exact G ad H1 locs1 lm _ _ (t + 1) hag hi hpc ⟨g1, g2, zWf_up hP.2.2 hxn (by rw [if_pos (by omega)]; exact r9)⟩ g3 hL hR3 hn hc hs
/-- a row of objects read -/
theorem zs_aaload {u : Nat} {x y i z : Int} (hd : decode (zmb j) pc = .ok (.aaload, 1)) (hu : u = 32 ∨ u = 33) (hp : (ph || σ.2.2.2.2.2 x i) = true) (h0 : 0 ≤ i) (hiy : i < y)
    (C : zAct p l R s m args meth c K j d) (hag : zag ad0 ad n0) (hi : is = zdrop (zmc j).1 (t + 1)) (hpc : is = [] ∨ (zpc j)[t + 1]? = some (pc + 1)) (hP : zPic K ph ad σ H) (hS : va_S K.A s.heap H locs) (hL : zLoc K ad σ.2.2.2.2.1 lm (zml j) ls) (hR : zRels K ad σ.2.2.2.2.1 ((0, i, z) :: (u, x, y) :: st) sm) (hn : n0 ≤ σ.2.2.2.2.1) (hc : c0 ≤ σ.2.2.1) (hs : s0 ≤ σ.2.2.2.1)
    (G : zGo p l e R s m args below meth c Q K ph j ad0 n0 c0 s0 is ls (zrl u x i :: st) σ) : W p l e R s m args below meth c H locs (σ.2.2.1 - c0) (σ.2.2.2.1 - s0) Q (F0 m pc lm sm) := by
  obtain ⟨hx, hb, hml, hown, hts, hcst, -⟩ := C
  obtain ⟨w0, ws0, rfl, ⟨rfl, r0⟩, hR1⟩ := zRels_cons hR
  obtain ⟨w1, ws1, rfl, r1, hR2⟩ := zRels_cons hR1
  obtain ⟨rfl, h10, h35, hx0, hxn, hst, hy⟩ := (zRel_o (by omega) (by omega)).mp r1
  obtain ⟨b, rfl⟩ : ∃ b : Nat, x = (b : Int) := ⟨x.toNat, by omega⟩
  obtain ⟨k, rfl⟩ : ∃ k : Nat, i = (k : Int) := ⟨i.toNat, by omega⟩
  simp only [Int.toNat_natCast] at hxn hst hy ⊢
  have hwf := hP.2.2
  have hb9 : b < 1479 := by have := hwf.2.2.1; omega
  have hst2 : zST b = 32 ∨ zST b = 33 := by rw [hst]; exact hu
  have hz := zST_ok hb9
  have hat := zWS_at (K := K) (ph := ph) (ad := ad) hxn
  rw [zent_r hst2] at hat
  have hrl := zrl_ok hb9 hst2 (i := k) (by omega)
  have hlt : (zrl (zST b) b k).2.1.toNat < σ.2.2.2.2.1 := by
    cases ph with
    | true => rw [hwf.2.2.2.1 rfl]; exact hrl.2.1
    | false =>
      simp only [Bool.false_or] at hp
      exact (hwf.2.2.2.2.2.2 b k (0, 0, 0) hp).2 hst2
  have hrel : zRel K ad σ.2.2.2.2.1 (zrl u b k) (va_rf (zrw K ph ad σ b k)) := by
    unfold zrw
    rw [if_pos hp, hst]
    rw [hst] at hrl hlt
    rcases hu with rfl | rfl
    · exact (zRel_o (by omega) (by omega)).mpr ⟨rfl, by omega, by omega, hrl.1, hlt, hrl.2.2.1, hrl.2.2.2.symm⟩
    · exact (zRel_o (by omega) (by omega)).mpr ⟨rfl, by omega, by omega, hrl.1, hlt, hrl.2.2.1, hrl.2.2.2.symm⟩
  have fin : W p l e R s m args below meth c H locs (σ.2.2.1 - c0) (σ.2.2.2.1 - s0) Q (F0 m (pc + 1) lm (va_rf (zrw K ph ad σ b (Int32.ofInt (k : Int)).toNatClampNeg) :: ws1)) := by
    rw [zi_clamp r0, Int.toNat_natCast]
    exact G ad H locs lm _ _ (t + 1) hag hi hpc hP hS hL ⟨hrel, hR2⟩ hn hc hs
  have hin : vp_in (Int32.ofInt (k : Int)) (zYT b).toNat := by rw [← hy]; exact zi_in r0 h0 hiy
  rcases hu with rfl | rfl
  · rw [hst] at hat
    exact va_aldq hx hb hcst.1 hP.1 b 2 hat rfl hin hd fin
  · rw [hst] at hat
    exact va_aldq hx hb hcst.1 hP.1 b 3 hat rfl hin hd fin
theorem zs_aaloadW {x y i z : Int} (hd : decode (zmb j) pc = .ok (.aaload, 1)) (h0 : 0 ≤ i) (hiy : i < y)
    (C : zAct p l R s m args meth c K j d) (hag : zag ad0 ad n0) (hi : is = zdrop (zmc j).1 (t + 1)) (hpc : is = [] ∨ (zpc j)[t + 1]? = some (pc + 1)) (hP : zPic K ph ad σ H) (hS : va_S K.A s.heap H locs) (hL : zLoc K ad σ.2.2.2.2.1 lm (zml j) ls) (hR : zRels K ad σ.2.2.2.2.1 ((0, i, z) :: (34, x, y) :: st) sm) (hn : n0 ≤ σ.2.2.2.2.1) (hc : c0 ≤ σ.2.2.1) (hs : s0 ≤ σ.2.2.2.1)
    (G : zGo p l e R s m args below meth c Q K ph j ad0 n0 c0 s0 is ls ((5, σ.2.1 i, 0) :: st) σ) : W p l e R s m args below meth c H locs (σ.2.2.1 - c0) (σ.2.2.2.1 - s0) Q (F0 m pc lm sm) := by
  obtain ⟨hx, hb, hml, hown, hts, hcst, -⟩ := C
  obtain ⟨w0, ws0, rfl, ⟨rfl, r0⟩, hR1⟩ := zRels_cons hR
  obtain ⟨w1, ws1, rfl, r1, hR2⟩ := zRels_cons hR1
  obtain ⟨rfl, h10, h35, hx0, hxn, hst, hy⟩ := (zRel_o (by omega) (by omega)).mp r1
  have hat := zWS_at (K := K) (ph := ph) (ad := ad) hxn
  rw [zent_w hst] at hat
  refine va_aldq hx hb hcst.1 hP.1 x.toNat 4 hat rfl (by rw [← hy]; exact zi_in r0 h0 hiy) hd ?_
  rw [zi_clamp r0]
  refine G ad H locs lm _ _ (t + 1) hag hi hpc hP hS hL ⟨?_, hR2⟩ hn hc hs
  unfold zwr
  rw [Int.toNat_of_nonneg h0]
  exact ⟨rfl, hP.2.2.2.1 i⟩
theorem zs_aastoreW {x y i z v a : Int} (hd : decode (zmb j) pc = .ok (.aastore, 1)) (hv0 : 0 ≤ v) (h0 : 0 ≤ i) (hiy : i < y)
    (C : zAct p l R s m args meth c K j d) (hag : zag ad0 ad n0) (hi : is = zdrop (zmc j).1 (t + 1)) (hpc : is = [] ∨ (zpc j)[t + 1]? = some (pc + 1)) (hP : zPic K ph ad σ H) (hS : va_S K.A s.heap H locs) (hL : zLoc K ad σ.2.2.2.2.1 lm (zml j) ls) (hR : zRels K ad σ.2.2.2.2.1 ((5, v, a) :: (0, i, z) :: (34, x, y) :: st) sm) (hn : n0 ≤ σ.2.2.2.2.1) (hc : c0 ≤ σ.2.2.1) (hs : s0 ≤ σ.2.2.2.1)
    (G : zGo p l e R s m args below meth c Q K ph j ad0 n0 c0 s0 is ls st (σ.1, zup1 σ.2.1 i v, σ.2.2)) : W p l e R s m args below meth c H locs (σ.2.2.1 - c0) (σ.2.2.2.1 - s0) Q (F0 m pc lm sm) := by
  obtain ⟨hx, hb, hml, hown, hts, hcst, -⟩ := C
  obtain ⟨w9, ws9, rfl, ⟨rfl, r9⟩, hR1⟩ := zRels_cons hR
  obtain ⟨w0, ws0, rfl, ⟨rfl, r0⟩, hR2⟩ := zRels_cons hR1
  obtain ⟨w1, ws1, rfl, r1, hR3⟩ := zRels_cons hR2
  obtain ⟨rfl, h10, h35, hx0, hxn, hst, hy⟩ := (zRel_o (by omega) (by omega)).mp r1
  obtain ⟨b, rfl⟩ : ∃ b : Nat, x = (b : Int) := ⟨x.toNat, by omega⟩
  obtain ⟨k, rfl⟩ : ∃ k : Nat, i = (k : Int) := ⟨i.toNat, by omega⟩
  simp only [Int.toNat_natCast] at hxn hst hy ⊢
  have hwf := hP.2.2
  have hz := zST_ok (show b < 1479 by have := hwf.2.2.1; omega)
  have hat := zWS_at (K := K) (ph := ph) (ad := ad) hxn
  rw [zent_w hst] at hat
  rw [if_neg (by omega)]
  have hany : va_Any "CyclicLines$Word" s H (K.adW v.toNat) := by
    have hw := (hcst.2.2.2.2.2.2.1 v.toNat (by omega)).2.1
    obtain ⟨cell, q1, q2, q3, q4⟩ := hw.kept hS.2.1
    obtain ⟨kC, hkC, -⟩ := Vm.findClass_spec q3
    refine ⟨cell, q1, q2, ⟨kC, hkC⟩, fun comp hcomp => ?_⟩
    have : comp = cell.cls := Option.some.inj (hcomp.symm.trans q3)
    subst this
    exact va_asg _ _
  refine va_astqM hx hb hcst.1 hP.1 hP.2.1 hS b 4 hat rfl hany (by rw [← hy]; exact zi_in r0 h0 hiy) hd (fun H1 locs1 g1 g2 g3 => ?_)
  rw [zi_clamp r0, Int.toNat_natCast] at g1 g2
  have es : (zWS K ph ad σ).set b (ad b, .inl (K.cA 34, (zYT b).toNat, .inr (.inr (.inr (.inr (va_up (zwr K σ) k (some (K.adW v.toNat)))))))) = zWS K ph ad (σ.1, zup1 σ.2.1 k v, σ.2.2) := by
    refine zWS_set rfl (fun q hq hba => ?_) ?_
    · have hne : ¬ zST q = 34 := by
        have h1 := zST_ok (show q < 1479 by have := hwf.2.2.1; omega)
        have h2 := (hz.2.2.2.2.2.2).mp hst
        intro h3
        have := h1.2.2.2.2.2.2.mp h3
        omega
      unfold zent zfv zrw
      simp only [if_neg hne]
    · rw [zent_w hst]
      congr 6
      congr 1
      funext q
      unfold va_up zwr zup1
      simp only
      by_cases hq : q = k
      · subst hq
        rw [if_pos rfl, if_pos rfl, if_neg (by omega)]
      · rw [if_neg hq, if_neg (show ¬ (q : Int) = (k : Int) by omega)]
  rw [es] at g1 g2
  refine G ad H1 locs1 lm _ _ (t + 1) hag hi hpc ⟨g1, g2, ?_⟩ g3 hL hR3 hn hc hs
  obtain ⟨f1, f2, f3, f4, f5, f6, f7⟩ := hwf
  refine ⟨f1, fun q => ?_, f3, f4, f5, fun h310 => ?_, f7⟩
  · show -1 ≤ zup1 σ.2.1 k v q ∧ zup1 σ.2.1 k v q < 33
    unfold zup1
    by_cases hq : q = (k : Int)
    · rw [if_pos hq]; exact r9
    · rw [if_neg hq]; exact f2 q
  · have h2 := (hz.2.2.2.2.2.2).mp hst
    have h9 : σ.2.2.2.2.1 ≤ 310 := h310
    omega
theorem zs_copy {a x k y b2 sp dp n z1 z2 z3 : Int} {o : Nat} (hd : decode (zmb j) pc = .ok (.invokestatic o, 3)) (hl : zCL.any (fun e => Nat.beq e.1 (zmo j) && Nat.beq e.2.1 o) = true)
    (h1 : 0 ≤ sp) (h2 : 0 ≤ dp) (h3 : 0 ≤ n) (h4 : sp + n ≤ k) (h5 : dp + n ≤ y)
    (C : zAct p l R s m args meth c K j d) (hcat : st.length ≤ 8) (hag : zag ad0 ad n0) (hi : is = zdrop (zmc j).1 (t + 1)) (hpc : is = [] ∨ (zpc j)[t + 1]? = some (pc + 3)) (hP : zPic K ph ad σ H) (hS : va_S K.A s.heap H locs) (hL : zLoc K ad σ.2.2.2.2.1 lm (zml j) ls) (hR : zRels K ad σ.2.2.2.2.1 ((0, n, z1) :: (0, dp, z2) :: (30, x, y) :: (0, sp, z3) :: (30, a, k) :: st) sm) (hn : n0 ≤ σ.2.2.2.2.1) (hc : c0 ≤ σ.2.2.1) (hs : s0 ≤ σ.2.2.2.1)
    (G : zGo p l e R s m args below meth c Q K ph j ad0 n0 c0 s0 is ls st (zcpy σ.1 a sp x dp n, σ.2)) : W p l e R s m args below meth c H locs (σ.2.2.1 - c0) (σ.2.2.2.1 - s0) Q (F0 m pc lm sm) := by
  obtain ⟨hx, hb, hml, hown, hts, hcst, -, -, -, -, hfr, hlo⟩ := C
  obtain ⟨q0, hq0, hq1⟩ := List.any_eq_true.mp hl
  rw [Bool.and_eq_true] at hq1
  have hw := zgw_ok (List.all_eq_true.mp zCL_ok q0 hq0)
  rw [Nat.eq_of_beq_eq_true hq1.1, Nat.eq_of_beq_eq_true hq1.2] at hw
  obtain ⟨w1, ws1, rfl, ⟨rfl, r1⟩, hR1⟩ := zRels_cons hR
  obtain ⟨w2, ws2, rfl, ⟨rfl, r2⟩, hR2⟩ := zRels_cons hR1
  obtain ⟨w3, ws3, rfl, r3, hR3⟩ := zRels_cons hR2
  obtain ⟨w4, ws4, rfl, ⟨rfl, r4⟩, hR4⟩ := zRels_cons hR3
  obtain ⟨w5, ws5, rfl, r5, hR5⟩ := zRels_cons hR4
  obtain ⟨rfl, -, -, hx0, hxn, hst, hy⟩ := (zRel_o (by omega) (by omega)).mp r3
  obtain ⟨rfl, -, -, ha0, han, hat0, hk⟩ := (zRel_o (by omega) (by omega)).mp r5
  obtain ⟨b, rfl⟩ : ∃ b : Nat, x = (b : Int) := ⟨x.toNat, by omega⟩
  obtain ⟨a', rfl⟩ : ∃ b : Nat, a = (b : Int) := ⟨a.toNat, by omega⟩
  obtain ⟨S, rfl⟩ : ∃ b : Nat, sp = (b : Int) := ⟨sp.toNat, by omega⟩
  obtain ⟨D, rfl⟩ : ∃ b : Nat, dp = (b : Int) := ⟨dp.toNat, by omega⟩
  obtain ⟨N, rfl⟩ : ∃ b : Nat, n = (b : Int) := ⟨n.toNat, by omega⟩
  simp only [Int.toNat_natCast] at hxn hst hy han hat0 hk ⊢
  have hwf := hP.2.2
  have hz := zST_ok (show b < 1479 by have := hwf.2.2.1; omega)
  have hz2 := zST_ok (show a' < 1479 by have := hwf.2.2.1; omega)
  have e1 := zWS_at (K := K) (ph := ph) (ad := ad) hxn
  rw [zent_i hst] at e1
  have e2 := zWS_at (K := K) (ph := ph) (ad := ad) han
  rw [zent_i hat0] at e2
  have hcatl : ∀ (vs : List zV) (ws : List Value), zRels K ad σ.2.2.2.2.1 vs ws → (ws.map fun v => v.category).sum ≤ 2 * vs.length := by
    intro vs
    induction vs with
    | nil => intro ws h; rw [zRels_nil h]; simp
    | cons v vs ih =>
      intro ws h
      obtain ⟨w, ws', rfl, g1, g2⟩ := zRels_cons h
      obtain ⟨t9, x9, y9⟩ := v
      have g3 := zRel_cat g1
      have g4 := ih ws' g2
      simp only [List.map_cons, List.sum_cons, List.length_cons]
      have : w.category ≤ 2 := by rw [g3]; split <;> omega
      omega
  have hcs := hcatl _ _ hR5
  refine va_copyi hx hb (hml.trans hL.1.symm) hown (hts _ hw.1 hw.2) (hts (.native arraycopyName) (List.mem_append_right _ (List.mem_of_getElem? (i := 489) rfl)) rfl) (hts (.static arraycopyName) (List.mem_append_right _ (List.mem_of_getElem? (i := 488) rfl)) rfl) (hts (.initialized "java/lang/System") (List.mem_append_right _ (List.mem_of_getElem? (i := 18) rfl)) rfl) hcst.1 hP.1 hP.2.1 hS a' b 0 0 e2 e1 rfl rfl rfl
    (zi_nneg r4 h1) (zi_nneg r2 h2) (zi_nneg r1 h3) (by rw [zi_clamp r4, zi_clamp r1]; omega) (by rw [zi_clamp r2, zi_clamp r1]; omega) (fun _ _ => rfl) (by omega) (by
      have : nativeFrameWords "java/lang/System" "arraycopy" 5 + 11 ≤ 200 := by decide
      omega) hd (fun H1 locs1 g1 g2 g3 => ?_)
  rw [zi_clamp r4, zi_clamp r2, zi_clamp r1] at g1 g2
  simp only [Int.toNat_natCast] at g1 g2
  have es : (zWS K ph ad σ).set b (ad b, .inl (K.cA 30, (zYT b).toNat, .inl (va_cpy (fun q => Int32.ofInt (σ.1 a' q)) (fun q => Int32.ofInt (σ.1 b q)) S D N))) = zWS K ph ad (zcpy σ.1 a' S b D N, σ.2) := by
    have hce : ∀ (q : Nat) (i : Int), q ≠ b → zcpy σ.1 a' S b D N q i = σ.1 q i := fun q i hq => by
      unfold zcpy
      rw [if_neg (by omega)]
    refine zWS_set rfl (fun q _ hba => ?_) ?_
    · unfold zent zfv zrw zwr
      simp only [hce _ _ hba]
    · rw [zent_i hst]
      congr 3
      congr 1
      funext q
      unfold va_cpy zcpy
      by_cases hq : D ≤ q ∧ q < D + N
      · dsimp only
        rw [if_pos hq, if_pos (show ((b : Int) = b ∧ (D : Int) ≤ q ∧ (q : Int) < (D : Int) + N) from ⟨rfl, by omega, by omega⟩), show ((S + (q - D) : Nat) : Int) = (S : Int) + ((q : Int) - D) by omega]
      · dsimp only
        rw [if_neg hq, if_neg (show ¬ ((b : Int) = b ∧ (D : Int) ≤ q ∧ (q : Int) < (D : Int) + N) by omega)]
  rw [es] at g1 g2
  refine G ad H1 locs1 lm _ _ (t + 1) hag hi hpc ⟨g1, g2, ?_⟩ g3 hL hR5 hn hc hs
  obtain ⟨f1, f2, f3, f4, f5, f6, f7⟩ := hwf
  refine ⟨fun q i => ?_, f2, f3, f4, fun q i hq => ?_, f6, f7⟩
  · show if q = 1478 then zI64 (zcpy σ.1 a' S b D N q i) else zI32 (zcpy σ.1 a' S b D N q i)
    unfold zcpy
    by_cases hq : q = (b : Int) ∧ (D : Int) ≤ i ∧ i < (D : Int) + N
    · rw [if_pos hq]
      have g := f1 a' ((S : Int) + (i - D))
      rw [if_neg (by omega)] at g
      rw [if_neg (by omega)]
      exact g
    · rw [if_neg hq]; exact f1 q i
  · have g := f5 q i hq
    have hq' : (σ.2.2.2.2.1 : Int) ≤ q := hq
    refine ⟨?_, g.2⟩
    show zcpy σ.1 a' S b D N q i = 0
    unfold zcpy
    rw [if_neg (by omega)]
    exact g.1
end ZR
