/-! ## the class against the reference: all that is kept -/
def zRW (N : Int) (f : Int → Int → Int) (W : Int) (g : Int → Int) : Prop := zGC f W g ∧ zWL f W g ∧ zWI N g ∧ (0 ≤ g 0 ∧ g 0 ≤ 12) ∧ (0 ≤ g 7 ∧ g 7 ≤ N)
theorem zGC_c {f f2 : Int → Int → Int} {W : Int} {g : Int → Int} (e : ∀ o k, W ≤ o → o < W + 95 → o ≠ W + 22 → f2 o k = f o k) (h : zGC f W g) : zGC f2 W g := by
  obtain ⟨a1, a2, a3, a4, a5, a6, a7, j1, j2, j3, j4⟩ := h
  have r0 : f2 W = f W := funext fun k => e _ _ (by omega) (by omega) (by omega)
  have r1 : f2 (W + 20) = f (W + 20) := funext fun k => e _ _ (by omega) (by omega) (by omega)
  have r2 : f2 (W + 21) = f (W + 21) := funext fun k => e _ _ (by omega) (by omega) (by omega)
  unfold zGC zJC
  rw [r0, r1, r2]
  exact ⟨a1, a2, a3, a4, a5, a6, a7, j1, j2, j3, j4⟩
theorem zWL_c {f f2 : Int → Int → Int} {W : Int} {g : Int → Int} (h4 : g 3 ≤ 4) (e : ∀ o k, W + 23 ≤ o → o < W + 95 → f2 o k = f o k) (h : zWL f W g) : zWL f2 W g := fun o o0 o1 => zLC_fr (fun x k x0 x1 => e x k (by omega) (by omega)) (h o o0 o1)
theorem zRW_c {N : Int} {f f2 : Int → Int → Int} {W : Int} {g : Int → Int} (e : ∀ o k, W ≤ o → o < W + 95 → o ≠ W + 22 → f2 o k = f o k) (h : zRW N f W g) : zRW N f2 W g := ⟨zGC_c e h.1, zWL_c h.2.2.1.2.1 (fun o k o0 o1 => e o k (by omega) o1 (by omega)) h.2.1, h.2.2⟩
theorem zRW_mono {N M : Int} {f : Int → Int → Int} {W : Int} {g : Int → Int} (hN : N ≤ M) (h : zRW N f W g) : zRW M f W g := ⟨h.1, h.2.1, zWI_mono hN h.2.2.1, h.2.2.2.1, h.2.2.2.2.1, by have := h.2.2.2.2.2; omega⟩
/-- the law -/
def zRL (f : Int → Int → Int) (a : Int) (g : Int → Int) : Prop := (∀ j, 1710 ≤ j → g j = 0) ∧ ∃ w ls, zLawW w g ∧ zTok w ∧ ls = (pLaw (zTu w) (zTn w)).2.2 ∧ f a 6 = g 1 ∧ (f a 6 = (ls.length : Int) ∨ (f a 6 = -1 ∧ ls = [])) ∧ zLOs f a ls 0 ∧ 0 ≤ f a 7 ∧ f a 7 ≤ 400 ∧ ∀ j : Int, 0 ≤ j → j < ls.length → f (a + 4) j ≤ f a 7
theorem zRL_c {f f2 : Int → Int → Int} {a : Int} {g : Int → Int} (e : ∀ o k, a ≤ o → o < a + 6 → f2 o k = f o k) (h : zRL f a g) : zRL f2 a g := by
  obtain ⟨h0, w, ls, h1, h2, h3, h4, h5, h6, h7, h8, h9⟩ := h
  have r0 : f2 a = f a := funext fun k => e _ _ (by omega) (by omega)
  refine ⟨h0, w, ls, h1, h2, h3, by rw [r0]; exact h4, by rw [r0]; exact h5, ?_, by rw [r0]; exact h7, by rw [r0]; exact h8, fun j j0 j1 => ?_⟩
  · exact zLOs_congr (b := f a 7) (N := ls.length) (fun o k o0 o1 _ _ => e o k (by omega) (by omega)) (fun j _ => e _ _ (by omega) (by omega)) ls 0 (Int.le_refl 0) (by omega) h9 h6
  · rw [r0, e _ _ (by omega) (by omega)]
    exact h9 j j0 j1
theorem zRL_g {f : Int → Int → Int} {a : Int} {g h : Int → Int} (e : ∀ j, (j = 1 ∨ j = 2 ∨ 1310 ≤ j) → h j = g j) (hL : zRL f a g) : zRL f a h := by
  obtain ⟨h0, w, ls, h1, h2, h3, h4, h5⟩ := hL
  exact ⟨fun j hj => (e j (by omega)).trans (h0 j hj), w, ls, fun j hj => (e j hj).trans (h1 j hj), h2, h3, by rw [e 1 (by omega)]; exact h4, h5⟩
theorem zLOs_cok {f : Int → Int → Int} {a : Int} : ∀ (ls : List (Int × Int × List Int)) (i : Int), zLOs f a ls i → ∀ l ∈ ls, zCok l.2.2 := by
  intro ls
  induction ls with
  | nil => intro i _ l hl; exact absurd hl (by simp)
  | cons m ls ih =>
    intro i h l hl
    rcases List.mem_cons.mp hl with rfl | hl
    · exact h.2.2.2.1
    · exact ih _ h.2.2.2.2 l hl
theorem zAskC_no {q : Int × (Int → Int)} {a : Int} {h : Int → Int → Int} (h6 : h a 6 = -1) : zAskC q (zSv []) a h := by
  intro d σ r x hh hr x0 x2
  refine ⟨σ.1, ?_, fun _ _ _ => rfl⟩
  rw [ze_Law_sumOf, zb_Law_sumOf_0, zb_Law_sumOf_4, hh a 6 (Int.le_refl a) (by omega), h6, if_pos (by decide), zb_Law_sumOf_28]
  rfl
/-- what the law says, on both sides -/
theorem zRL_ask {q : Int × (Int → Int)} {f : Int → Int → Int} {a : Int} {g : Int → Int} (h : zRL f a g) : ∃ S w, zSC S ∧ zAskC q S a f ∧ zAsk q (zLwA S) w ∧ zLawW w g ∧ zAB (zLwA S) := by
  obtain ⟨h0, w, ls, h1, h2, h3, h4, h5, h6, h7⟩ := h
  have hv := pLaw_v h2.1
  rw [← h3] at hv
  have hS := zSC_of hv.2 hv.1 (zLOs_cok ls 0 h6)
  refine ⟨zSv ls, w, hS, ?_, ?_, h1, zAB_of hS⟩
  · rcases h5 with h5 | ⟨h5, rfl⟩
    · exact zAskC_of h5 hv.2 h6 hv.1
    · exact zAskC_no h5
  · rw [h3]
    exact zAsk_of h2
/-- the tape, the image, the acts -/
def zRT (f h : Int → Int → Int) : Prop := f 0 12 = h 1464 8 ∧ 0 ≤ h 1464 8 ∧ h 1464 8 ≤ 400 ∧ ∀ k, 0 ≤ k → k < h 1464 8 → f 1 k = h 1469 k ∧ 0 ≤ h 1469 k ∧ h 1469 k ≤ 255
def zRI (N : Int) (f h : Int → Int → Int) : Prop := (f 0 14 = h 1464 3 ∧ ∀ j, 1710 ≤ j → h 1466 j = 0) ∧ (h 1464 3 = 0 ∨ (h 1464 3 = 1 ∧ zRW N f 213 (h 1466) ∧ zRL f 16 (h 1466)))
def zact (h : Int → Int → Int) (j : Int) : Int → Int := fun k => h 1468 (1310 * j + k)
def zRA (N : Int) (f h : Int → Int → Int) : Prop := 0 ≤ h 1464 6 ∧ h 1464 6 ≤ 12 ∧ f 0 16 = h 1464 6 ∧ 0 ≤ f 0 15 ∧ f 0 15 < 12 ∧ ∀ i, 0 ≤ i → i < h 1464 6 → zRW N f (324 + 95 * ((f 0 15 + 12 - i) % 12)) (zact h (h 1464 6 - 1 - i)) ∧ zact h (h 1464 6 - 1 - i) 1 = h 1465 1 ∧ zact h (h 1464 6 - 1 - i) 2 = h 1465 2
def ZR (N : Int) (f h : Int → Int → Int) : Prop := 0 ≤ N ∧ zRW N f 23 (h 1465) ∧ zRL f 2 (h 1465) ∧ zRT f h ∧ zRI N f h ∧ zRA N f h ∧ f 0 13 = h 1464 12 ∧ zB3 h
theorem zRI_c {N : Int} {f f2 h h2 : Int → Int → Int} (e : ∀ o k, (o = 0 ∧ k = 14) ∨ (16 ≤ o ∧ o < 22) ∨ (213 ≤ o ∧ o < 308) → f2 o k = f o k) (e2 : h2 1464 3 = h 1464 3) (e3 : h2 1466 = h 1466) (r : zRI N f h) : zRI N f2 h2 := by
  unfold zRI
  rw [e2, e3, e 0 14 (Or.inl ⟨rfl, rfl⟩)]
  refine ⟨r.1, ?_⟩
  rcases r.2 with r | ⟨r1, r2, r3⟩
  · exact Or.inl r
  · exact Or.inr ⟨r1, zRW_c (fun o k o0 o1 _ => e o k (by omega)) r2, zRL_c (fun o k o0 o1 => e o k (by omega)) r3⟩
theorem zRA_c {N : Int} {f f2 h h2 : Int → Int → Int} (e : ∀ o k, (o = 0 ∧ (k = 15 ∨ k = 16)) ∨ (324 ≤ o ∧ o < 1464) → f2 o k = f o k) (e2 : h2 1464 6 = h 1464 6) (e3 : h2 1468 = h 1468) (e4 : h2 1465 1 = h 1465 1) (e5 : h2 1465 2 = h 1465 2) (r : zRA N f h) : zRA N f2 h2 := by
  obtain ⟨r1, r2, r3, r4, r5, r6⟩ := r
  have ez : zact h2 = zact h := by
    funext j k
    unfold zact
    rw [e3]
  unfold zRA
  rw [e2, ez, e4, e5, e 0 15 (by omega), e 0 16 (by omega)]
  refine ⟨r1, r2, r3, r4, r5, fun i i0 i1 => ⟨zRW_c (fun o k o0 o1 _ => e o k (by omega)) (r6 i i0 i1).1, (r6 i i0 i1).2⟩⟩
theorem zRI_mono {N M : Int} {f h : Int → Int → Int} (hN : N ≤ M) (r : zRI N f h) : zRI M f h := by
  refine ⟨r.1, ?_⟩
  rcases r.2 with r | ⟨r1, r2, r3⟩
  · exact Or.inl r
  · exact Or.inr ⟨r1, zRW_mono hN r2, r3⟩
theorem zRA_mono {N M : Int} {f h : Int → Int → Int} (hN : N ≤ M) (r : zRA N f h) : zRA M f h := ⟨r.1, r.2.1, r.2.2.1, r.2.2.2.1, r.2.2.2.2.1, fun i i0 i1 => ⟨zRW_mono hN (r.2.2.2.2.2 i i0 i1).1, (r.2.2.2.2.2 i i0 i1).2⟩⟩
theorem ZR_mono {N M : Int} {f h : Int → Int → Int} (hN : N ≤ M) (r : ZR N f h) : ZR M f h := by
  obtain ⟨r0, r1, r2, r3, r4, r5, r6⟩ := r
  exact ⟨by omega, zRW_mono hN r1, r2, r3, zRI_mono hN r4, zRA_mono hN r5, r6⟩
/-- what nobody looks at may change -/
def zCk (f f2 : Int → Int → Int) : Prop := ∀ o k, (o < 8 ∨ (16 ≤ o ∧ o < 22) ∨ (23 ≤ o ∧ o < 45) ∨ (46 ≤ o ∧ o < 118) ∨ (213 ≤ o ∧ o < 308) ∨ (324 ≤ o ∧ o < 1464)) → f2 o k = f o k
def zHk (h h2 : Int → Int → Int) : Prop := (∀ o k, (o = 1465 ∨ o = 1466 ∨ o = 1468 ∨ o = 1469 ∨ (o = 1464 ∧ (k = 3 ∨ k = 6 ∨ k = 8 ∨ k = 12))) → h2 o k = h o k) ∧ (zB3 h → zB3 h2)
theorem zCk_refl {f : Int → Int → Int} : zCk f f := fun _ _ _ => rfl
theorem zCk_trans {f f2 f3 : Int → Int → Int} (h : zCk f f2) (h2 : zCk f2 f3) : zCk f f3 := fun o k a => (h2 o k a).trans (h o k a)
theorem zHk_refl {f : Int → Int → Int} : zHk f f := ⟨fun _ _ _ => rfl, id⟩
theorem zHk_trans {f f2 f3 : Int → Int → Int} (h : zHk f f2) (h2 : zHk f2 f3) : zHk f f3 := ⟨fun o k a => (h2.1 o k a).trans (h.1 o k a), fun z => h2.2 (h.2 z)⟩
theorem ZR_c {N : Int} {f f2 h h2 : Int → Int → Int} (e : zCk f f2) (e2 : zHk h h2) (r : ZR N f h) : ZR N f2 h2 := by
  obtain ⟨r0, r1, r2, r3, r4, r5, r6⟩ := r
  have x5 : h2 1465 = h 1465 := funext fun k => e2.1 _ _ (by omega)
  have x6 : h2 1466 = h 1466 := funext fun k => e2.1 _ _ (by omega)
  have x8 : h2 1468 = h 1468 := funext fun k => e2.1 _ _ (by omega)
  have x9 : h2 1469 = h 1469 := funext fun k => e2.1 _ _ (by omega)
  have y8 := e2.1 1464 8 (by omega)
  have y12 := e2.1 1464 12 (by omega)
  refine ⟨r0, by rw [x5]; exact zRW_c (fun o k o0 o1 o2 => e o k (by omega)) r1, by rw [x5]; exact zRL_c (fun o k o0 o1 => e o k (by omega)) r2, ?_, zRI_c (fun o k ho => e o k (by omega)) (e2.1 _ _ (by omega)) x6 r4, zRA_c (fun o k ho => e o k (by omega)) (e2.1 _ _ (by omega)) x8 (by rw [x5]) (by rw [x5]) r5, ?_⟩
  · unfold zRT
    rw [y8, x9, e 0 12 (by omega), show f2 1 = f 1 from funext fun k => e 1 k (by omega)]
    exact r3
  · rw [y12, e 0 13 (by omega)]
    exact ⟨r6.1, e2.2 r6.2⟩

