/-! ## the class takes a text apart: things -/
theorem c_addThing {q : Int × (Int → Int)} {d : Nat} {w : Int → Int} {t2 : Nat × Nat × Nat × (Int → Int → Bool)} {f : Int → Int → Int} {r y n p s T : Int} {u : Int → Int} (hn : n ≤ y) (hu : ∀ i, 0 ≤ i → i < n → f r i = u i) (ny : n < 100000) (p0 : 0 ≤ p) (p1 : p < n) (hs : f T 3 = s) (s0 : 0 ≤ s) (s4 : s < 400) : zM (true, q) (d + 6) 34 [(15, T, 0), (30, r, y), (0, p, 0), (0, txE u n p, 0)] (f, (w, t2)) = some ((9, 0, 0), (zup (zup (zup f (T + 2) s p) (T + 3) s (txV u n p)) T 3 (s + 1), (zup1 w s (txT u n p), t2))) := by
  have hE := txE_rng (u := u) p1
  have hT := txT_rng (u := u) (n := n) (p := p)
  have fin : ∀ v6, zD (true, q) (d + 6) zc_Tex_addThing (zat zc_Tex_addThing 42) [(15, T, 0), (30, r, y), (0, p, 0), (0, txE u n p, 0), (5, txT u n p, 0), (0, txV u n p, 0), v6] [] (f, (w, t2)) = some ((9, 0, 0), (zup (zup (zup f (T + 2) s p) (T + 3) s (txV u n p)) T 3 (s + 1), (zup1 w s (txT u n p), t2))) := by
    intro v6
    rw [zb_Tex_addThing_42]
    show (if f T 3 < 0 then _ else _) = _
    rw [hs, if_neg (by omega), zb_Tex_addThing_45]
    show (if 401 ≤ f T 3 then _ else _) = _
    rw [hs, if_neg (by omega), zb_Tex_addThing_51]
    show zG [txT u n p, 33, f T 3, 401] (zD _ _ _ _ _ _ (f, (zup1 w (f T 3) (txT u n p), t2))) = _
    rw [hs, zG4 hT.1 hT.2 s0 (by omega), zb_Tex_addThing_57]
    show zK _ _ _ _ _ _ (zM (true, q) (d + 5) 15 [(30, T + 2, 401), (0, f T 3, 0), (0, p, 0)] (f, (zup1 w s (txT u n p), t2))) = _
    rw [hs, s_put s0 (by omega), zK_v, zb_Tex_addThing_63]
    show zK _ _ _ _ _ _ (zM (true, q) (d + 5) 15 [(30, T + 3, 401), (0, zup f (T + 2) s p T 3, 0), (0, txV u n p, 0)] (zup f (T + 2) s p, (zup1 w s (txT u n p), t2))) = _
    rw [zup_na (by omega), hs, s_put s0 (by omega), zK_v, zb_Tex_addThing_69]
    show some ((9, 0, 0), (zup (zup (zup f (T + 2) s p) (T + 3) s (txV u n p)) T 3 (zw (zup (zup f (T + 2) s p) (T + 3) s (txV u n p) T 3 + 1)), _)) = _
    rw [zup_na (by omega), zup_na (by omega), hs, zw_id (by omega) (by omega)]
  have hW := c_wordOf (q := q) (d := d) (σ := (f, (w, t2))) hn hu ny p0 (e := txE u n p) (by omega) hE.2
  rw [ze_Tex_addThing, zb_Tex_addThing_0]
  show (if f T 3 < 400 then _ else _) = _
  rw [hs, if_pos s4, zb_Tex_addThing_5, hW, zK_w, zb_Tex_addThing_9, s_at p0 (by omega), zK_i, zb_Tex_addThing_15, c_kindOf, zK_i, zb_Tex_addThing_16]
  show (if txK (f r p) ≠ 2 then _ else _) = _
  rw [hu p p0 p1]
  have eT : txT u n p = if txK (u p) = 2 ∧ txE u n p - p ≤ 3 then 2 else zfst (fun i => txM u (zWtx i) p (txE u n p)) 1 33 0 := by
    unfold txT
    rw [if_neg (by omega)]
  have eV : txV u n p = if txK (u p) = 2 ∧ txE u n p - p ≤ 3 then txD u (txE u n p - p).toNat p 0 else 0 := rfl
  by_cases c : txK (u p) = 2 ∧ txE u n p - p ≤ 3
  · rw [if_pos c] at eT eV
    have hEe : txE u n p = txR u 2 (n - (p + 1)).toNat (p + 1) := by
      unfold txE
      rw [if_neg (by omega), c.1]
    have hrr := txR_rng (u := u) (kd := 2) (n - (p + 1)).toNat (p + 1)
    rw [← hEe] at hrr
    have hd : ∀ j, p ≤ j → j < txE u n p → txK (u j) = 2 := fun j j0 j1 => by
      by_cases cj : j = p
      · rw [cj]; exact c.1
      · exact hrr.2.2.1 j (by omega) (by omega)
    obtain ⟨v6, h6⟩ := l_digits (q := q) (d := d + 5) (σ := (f, (w, t2))) (p := p) (T := T) (x := 2) hn hu ny hE.2 (txE u n p - p).toNat p 0 p0 (by omega) (by omega) (Int.le_refl 0) (by omega) hd
    rw [if_neg (by omega), zb_Tex_addThing_18, zw_id (by omega) (by omega), if_neg (by omega), zb_Tex_addThing_23]
    have F := fin v6
    rw [eT, eV] at F ⊢
    exact h6.trans F
  · rw [if_neg c] at eT eV
    have F := fin (2, 0, 0)
    rw [eT, eV] at F ⊢
    by_cases c2 : txK (u p) = 2
    · rw [if_neg (by omega), zb_Tex_addThing_18, zw_id (by omega) (by omega), if_pos (by omega)]
      exact F
    · rw [if_pos c2]
      exact F
/-- what has been taken apart, and what comes next -/
def zTP (f : Int → Int → Int) (w : Int → Int) (T : Int) (u : Int → Int) (n s x : Int) : Prop := 0 ≤ s ∧ (s = 0 → x = txS u n 0) ∧ (0 < s → f (T + 2) 0 = txS u n 0) ∧ (∀ i, 0 ≤ i → i < s → 0 ≤ f (T + 2) i ∧ f (T + 2) i < n ∧ w i = txT u n (f (T + 2) i) ∧ f (T + 3) i = txV u n (f (T + 2) i) ∧ (i + 1 < s → f (T + 2) (i + 1) = txN u n (f (T + 2) i)) ∧ (i + 1 = s → x = txN u n (f (T + 2) i)))
theorem zTP_add {f : Int → Int → Int} {w : Int → Int} {T n s p : Int} {u : Int → Int} (h : zTP f w T u n s p) (p0 : 0 ≤ p) (p1 : p < n) : zTP (zup (zup (zup f (T + 2) s p) (T + 3) s (txV u n p)) T 3 (s + 1)) (zup1 w s (txT u n p)) T u n (s + 1) (txN u n p) := by
  obtain ⟨h1, h2, h3, h4⟩ := h
  have r2 : ∀ i, zup (zup (zup f (T + 2) s p) (T + 3) s (txV u n p)) T 3 (s + 1) (T + 2) i = zup f (T + 2) s p (T + 2) i := fun i => by rw [zup_na (by omega), zup_na (by omega)]
  have r3 : ∀ i, zup (zup (zup f (T + 2) s p) (T + 3) s (txV u n p)) T 3 (s + 1) (T + 3) i = zup (zup f (T + 2) s p) (T + 3) s (txV u n p) (T + 3) i := fun i => by rw [zup_na (by omega)]
  have b : ∀ i, i < s → zup f (T + 2) s p (T + 2) i = f (T + 2) i := fun i hi => zup_nk (by omega)
  have bs : zup f (T + 2) s p (T + 2) s = p := zupE rfl rfl
  refine ⟨by omega, fun z => by omega, fun _ => ?_, fun i i0 i1 => ?_⟩
  · rw [r2]
    by_cases c : s = 0
    · rw [c] at bs ⊢
      rw [zupE rfl rfl]
      exact h2 c
    · rw [b 0 (by omega)]
      exact h3 (by omega)
  · rw [r2, r2, r3]
    by_cases c : i = s
    · rw [c, bs, zupE rfl rfl, zup1_eq rfl]
      exact ⟨p0, p1, rfl, rfl, fun z => by omega, fun _ => rfl⟩
    · have hh := h4 i i0 (by omega)
      rw [b i (by omega), zup_nk (by omega), zup_na (by omega), zup1_ne c]
      refine ⟨hh.1, hh.2.1, hh.2.2.1, hh.2.2.2.1, fun z => ?_, fun z => by omega⟩
      by_cases c2 : i + 1 = s
      · rw [c2, bs]
        exact hh.2.2.2.2.2 c2
      · rw [b (i + 1) (by omega)]
        exact hh.2.2.2.2.1 (by omega)
theorem lc_read {q : Int × (Int → Int)} {d : Nat} {t2 : Nat × Nat × Nat × (Int → Int → Bool)} {r n T : Int} {F : Int → Int → Int} {u : Int → Int} (hr : r < T) (hn : n ≤ 400) (hu : ∀ i, 0 ≤ i → i < n → F r i = u i) : ∀ (k : Nat) (p j s : Int) (v5 : zV) (f : Int → Int → Int) (w : Int → Int), 0 ≤ p → p ≤ n → n ≤ p + k → 0 ≤ j → j ≤ p → s ≤ j → f T 3 = s → f T 4 = 0 → f T 5 = -1 → zTP f w T u n s (txS u n p) → (∀ o k, (o ≠ T ∨ (k ≠ 3 ∧ k ≠ 4 ∧ k ≠ 5)) → o ≠ T + 2 → o ≠ T + 3 → f o k = F o k) → ∃ f2 w2, zD (true, q) (d + 7) zc_Tex_readFrom (zat zc_Tex_readFrom 13) [(15, T, 0), (30, r, 400), (0, n, 0), (0, p, 0), (0, j, 0), v5] [] (f, (w, t2)) = some ((9, 0, 0), (f2, (w2, t2))) ∧ zTC f2 w2 T u n (txS u n 0) (-1) ∧ (∀ o k, (o ≠ T ∨ (k ≠ 3 ∧ k ≠ 4 ∧ k ≠ 5)) → o ≠ T + 2 → o ≠ T + 3 → f2 o k = F o k) := by
  have last : ∀ (p j s : Int) (v5 : zV) (f : Int → Int → Int) (w : Int → Int), 0 ≤ p → p = n → 0 ≤ j → j ≤ p → s ≤ j → f T 3 = s → f T 4 = 0 → f T 5 = -1 → zTP f w T u n s (txS u n p) → (∀ o k, (o ≠ T ∨ (k ≠ 3 ∧ k ≠ 4 ∧ k ≠ 5)) → o ≠ T + 2 → o ≠ T + 3 → f o k = F o k) → ∃ f2 w2, zD (true, q) (d + 7) zc_Tex_readFrom (zat zc_Tex_readFrom 13) [(15, T, 0), (30, r, 400), (0, n, 0), (0, p, 0), (0, j, 0), v5] [] (f, (w, t2)) = some ((9, 0, 0), (f2, (w2, t2))) ∧ zTC f2 w2 T u n (txS u n 0) (-1) ∧ (∀ o k, (o ≠ T ∨ (k ≠ 3 ∧ k ≠ 4 ∧ k ≠ 5)) → o ≠ T + 2 → o ≠ T + 3 → f2 o k = F o k) := by
    intro p j s v5 f w p0 pn j0 jp sj h3 h4 h5 hP hF
    obtain ⟨g1, g2, g3, g4⟩ := hP
    have hx : txS u n p = n := by
      rw [txS_id (fun z => by omega)]
      exact pn
    rw [hx] at g2 g4
    refine ⟨zup f (T + 2) s n, w, ?_, ⟨⟨by omega, hn, ?_, ?_, ?_, fun i i0 i1 => ?_⟩, ?_, ?_, ?_, ?_⟩, fun o k o1 o2 o3 => ?_⟩
    · have e : zD (true, q) (d + 7) zc_Tex_readFrom (zat zc_Tex_readFrom 38) [(15, T, 0), (30, r, 400), (0, n, 0), (0, p, 0), (0, j, 0), v5] [] (f, (w, t2)) = some ((9, 0, 0), (zup f (T + 2) s n, (w, t2))) := by
        rw [zb_Tex_readFrom_38]
        show zK _ _ _ _ _ _ (zM (true, q) (d + 6) 15 [(30, T + 2, 401), (0, f T 3, 0), (0, n, 0)] (f, (w, t2))) = _
        rw [h3, s_put g1 (by omega), zK_v, zb_Tex_readFrom_44]
      rw [zb_Tex_readFrom_13]
      by_cases c : n ≤ j
      · rw [if_pos c]; exact e
      · rw [if_neg c, zb_Tex_readFrom_16, if_pos (by omega)]; exact e
    · rw [zup_na (by omega), h3]; exact g1
    · rw [zup_na (by omega), h3]; omega
    · rw [show zup f (T + 2) s n T 3 = s by rw [zup_na (by omega)]; exact h3, zupE rfl rfl]
    · have i1 : i < s := by
        rw [zup_na (by omega), h3] at i1
        exact i1
      have hh := g4 i i0 i1
      rw [zup_nk (by omega), zup_na (by omega)]
      refine ⟨hh.1, hh.2.1, hh.2.2.1, hh.2.2.2.1, ?_⟩
      by_cases c : i + 1 = s
      · rw [c, zupE rfl rfl]
        exact hh.2.2.2.2.2 c
      · rw [zup_nk (by omega)]
        exact hh.2.2.2.2.1 (by omega)
    · rw [zup_na (by omega), h4]; exact Int.le_refl 0
    · rw [zup_na (by omega), zup_na (by omega), h4, h3]; exact g1
    · rw [show zup f (T + 2) s n T 4 = 0 by rw [zup_na (by omega)]; exact h4]
      by_cases c : s = 0
      · rw [c, zupE rfl rfl]
        exact g2 c
      · rw [zup_nk (by omega)]
        exact g3 (by omega)
    · rw [zup_na (by omega)]; exact h5
    · rw [zup_na (by omega)]
      exact hF o k o1 o2 o3
  intro k
  induction k with
  | zero =>
    intro p j s v5 f w p0 pn hk j0 jp sj h3 h4 h5 hP hF
    exact last p j s v5 f w p0 (by omega) j0 jp sj h3 h4 h5 hP hF
  | succ k ih =>
    intro p j s v5 f w p0 pn hk j0 jp sj h3 h4 h5 hP hF
    by_cases cn : p = n
    · exact last p j s v5 f w p0 cn j0 jp sj h3 h4 h5 hP hF
    · have p1 : p < n := by omega
      have hE := txE_rng (u := u) p1
      have huf : ∀ i, 0 ≤ i → i < n → f r i = u i := fun i i0 i1 => (hF r i (by omega) (by omega) (by omega)).trans (hu i i0 i1)
      have hend := c_endOf (q := q) (d := d + 5) (σ := (f, (w, t2))) (r := r) (y := 400) hn huf (by omega) p0 p1
      have run : zD (true, q) (d + 7) zc_Tex_readFrom (zat zc_Tex_readFrom 13) [(15, T, 0), (30, r, 400), (0, n, 0), (0, p, 0), (0, j, 0), v5] [] (f, (w, t2)) = (if u p = 32 then zD (true, q) (d + 7) zc_Tex_readFrom (zat zc_Tex_readFrom 34) [(15, T, 0), (30, r, 400), (0, n, 0), (0, p, 0), (0, j, 0), (0, txE u n p, 0)] [] (f, (w, t2)) else zD (true, q) (d + 7) zc_Tex_readFrom (zat zc_Tex_readFrom 29) [(15, T, 0), (30, r, 400), (0, n, 0), (0, p, 0), (0, j, 0), (0, txE u n p, 0)] [] (f, (w, t2))) := by
        rw [zb_Tex_readFrom_13, if_neg (by omega), zb_Tex_readFrom_16, if_neg (by omega), zb_Tex_readFrom_19, hend, zK_i, zb_Tex_readFrom_23, s_at p0 (by omega), zK_i, zb_Tex_readFrom_27]
        show (if f r p = 32 then _ else _) = _
        rw [huf p p0 p1]
      rw [run]
      by_cases c : u p = 32
      · rw [if_pos c, zb_Tex_readFrom_34, zw_id (by omega) (by omega)]
        have eE : txE u n p = p + 1 := by
          unfold txE
          rw [c]
          exact if_pos (by decide)
        have eS : txS u n p = txS u n (p + 1) := by
          unfold txS
          rw [show (n - p).toNat = (n - (p + 1)).toNat + 1 by omega]
          exact if_pos c
        rw [eE]
        rw [eS] at hP
        exact ih (p + 1) (j + 1) s _ f w (by omega) (by omega) (by omega) (by omega) (by omega) (by omega) h3 h4 h5 hP hF
      · rw [if_neg c]
        have eS : txS u n p = p := txS_id (fun _ => c)
        rw [eS] at hP
        have s0 := hP.1
        have ad := c_addThing (q := q) (d := d) (w := w) (t2 := t2) (T := T) hn huf (by omega) p0 p1 h3 s0 (by omega)
        rw [zb_Tex_readFrom_29, ad, zK_v, zb_Tex_readFrom_34, zw_id (by omega) (by omega)]
        refine ih (txE u n p) (j + 1) (s + 1) _ _ _ (by omega) hE.2 (by omega) (by omega) (by omega) (by omega) (zupE rfl rfl) ?_ ?_ (zTP_add hP p0 p1) (fun o k o1 o2 o3 => ?_)
        · rw [zup_nk (by decide), zup_na (by omega), zup_na (by omega)]; exact h4
        · rw [zup_nk (by decide), zup_na (by omega), zup_na (by omega)]; exact h5
        · rw [zup_nka (by omega), zup_na (by omega), zup_na (by omega)]
          exact hF o k o1 o2 o3
theorem c_readFrom {q : Int × (Int → Int)} {d : Nat} {w : Int → Int} {t2 : Nat × Nat × Nat × (Int → Int → Bool)} {r n T : Int} {f : Int → Int → Int} {u : Int → Int} (hr : r < T) (n0 : 0 ≤ n) (hn : n ≤ 400) (hu : ∀ i, 0 ≤ i → i < n → f r i = u i) : ∃ f2 w2, zM (true, q) (d + 7) 35 [(15, T, 0), (30, r, 400), (0, n, 0)] (f, (w, t2)) = some ((9, 0, 0), (f2, (w2, t2))) ∧ zTC f2 w2 T u n (txS u n 0) (-1) ∧ (∀ o k, (o ≠ T ∨ (k ≠ 3 ∧ k ≠ 4 ∧ k ≠ 5)) → o ≠ T + 2 → o ≠ T + 3 → f2 o k = f o k) := by
  rw [ze_Tex_readFrom, zb_Tex_readFrom_0]
  show ∃ f2 w2, zD (true, q) (d + 7) zc_Tex_readFrom (zat zc_Tex_readFrom 13) [(15, T, 0), (30, r, 400), (0, n, 0), (0, 0, 0), (0, 0, 0), (2, 0, 0)] [] (zup (zup (zup f T 3 0) T 4 0) T 5 (-1), (w, t2)) = _ ∧ _
  refine lc_read hr hn hu n.toNat 0 0 0 _ _ w (Int.le_refl 0) n0 (by omega) (Int.le_refl 0) (Int.le_refl 0) (Int.le_refl 0) ?_ ?_ (zupE rfl rfl) ⟨Int.le_refl 0, fun _ => rfl, fun z => by omega, fun i i0 i1 => by omega⟩ (fun o k o1 o2 o3 => ?_)
  · rw [zup_nk (by decide), zup_nk (by decide), zupE rfl rfl]
  · rw [zup_nk (by decide), zupE rfl rfl]
  · rw [zup_nka (by omega), zup_nka (by omega), zup_nka (by omega)]

