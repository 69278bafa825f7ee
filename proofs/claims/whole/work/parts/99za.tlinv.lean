/-! ## a text of lines: what stays true -/
def gInv (N : Int) (g : Int → Int) : Prop := zWI N g ∧ 0 ≤ g 7 ∧ g 7 ≤ N
def gKp (g h : Int → Int) : Prop := ∀ j, (j < 3 ∨ j = 5 ∨ j = 6 ∨ j = 8 ∨ j = 9 ∨ 1070 ≤ j) → h j = g j
theorem gKp_refl {g : Int → Int} : gKp g g := fun _ _ => rfl
theorem gKp_trans {g h i : Int → Int} (a : gKp g h) (b : gKp h i) : gKp g i := fun j hj => (b j hj).trans (a j hj)
theorem gInv_mono {N M : Int} {g : Int → Int} (h : N ≤ M) (a : gInv N g) : gInv M g := ⟨zWI_mono h a.1, a.2.1, by have := a.2.2; omega⟩
theorem gTd_out {g : Int → Int} {B v j : Int} (h : j < B ∨ B + 265 ≤ j) (h7 : j ≠ 7) (q0 : 0 ≤ g (B + 6)) (q9 : g (B + 6) < 96) : gTd g B v j = g j := by
  unfold gTd gQa
  rw [zup1_ne h7, zup1_ne (by omega), zup1_ne (by omega), zup1_ne (by omega)]
theorem gTd_lo {g : Int → Int} {B v j : Int} (hB : 10 ≤ B) (h : 0 ≤ j ∧ j < 73 ∧ j ≠ 6) (q0 : 0 ≤ g (B + 6)) : gTd g B v (B + j) = g (B + j) := by
  unfold gTd gQa
  rw [zup1_ne (by omega), zup1_ne (by omega), zup1_ne (by omega), zup1_ne (by omega)]
theorem gInv_td {N l v : Int} {g : Int → Int} (h : gInv N g) (hl : 0 ≤ l) (hlm : l < g 3) (h6 : g (10 + 265 * l + 6) < 24) (hv : 1 ≤ v ∧ v ≤ 9) : gInv (N + 1) (gTd g (10 + 265 * l) v) ∧ gKp g (gTd g (10 + 265 * l) v) ∧ gTd g (10 + 265 * l) v 3 = g 3 := by
  obtain ⟨⟨m0, m4, hG, hI⟩, t0, t1⟩ := h
  have hIl := hI l hl hlm
  have q0 := hIl.1.1.2.2.2.2.2.2.1.1
  have e : ∀ j, (j < 10 + 265 * l ∨ 10 + 265 * l + 265 ≤ j) → j ≠ 7 → gTd g (10 + 265 * l) v j = g j := fun j a b => gTd_out a b q0 (by omega)
  refine ⟨⟨⟨by rw [e 3 (by omega) (by decide)]; exact m0, by rw [e 3 (by omega) (by decide)]; exact m4, ?_, fun o o0 o1 => ?_⟩, by rw [gTd_7]; omega, by rw [gTd_7]; omega⟩, fun j hj => e j (by omega) (by omega), e 3 (by omega) (by decide)⟩
  · refine zGR_mono (N := N) (by omega) ?_
    unfold zGR
    rw [e 4 (by omega) (by decide), e 5 (by omega) (by decide), e 6 (by omega) (by decide), e 8 (by omega) (by decide)]
    exact hG
  · rw [e 3 (by omega) (by decide)] at o1
    by_cases c : o = l
    · subst c
      rw [gTd_lo (by omega) (by omega) q0, gTd_lo (by omega) (by omega) q0]
      refine ⟨?_, hIl.2⟩
      have ha := zLI_app (n := 1) (ov := fun j => if j = 0 then g 7 else v) hIl.1 (by decide) (by omega) (fun i i0 i1 => by
        show 1 ≤ (if 2 * i + 1 = 0 then g 7 else v) ∧ (if 2 * i + 1 = 0 then g 7 else v) ≤ 9
        rw [if_neg (by omega)]
        exact hv)
      rw [← gQa_app q0] at ha
      exact zLI_mono (by omega) (zLI_eq (fun j j0 j1 => zup1_ne (by omega)) ha)
    · rw [e _ (by omega) (by omega), e _ (by omega) (by omega)]
      exact ⟨zLI_mono (by omega) (zLI_eq (fun j j0 j1 => e j (by omega) (by omega)) (hI o o0 o1).1), (hI o o0 o1).2⟩
theorem gInv_un {u : Int → Int} {n l : Int} (hl : 0 ≤ l) : ∀ (k : Nat) (N : Int) (g : Int → Int) (p : Int), gInv N g → l < g 3 → gInv (N + k) (pUn u n (10 + 265 * l) k g p).2.2 ∧ gKp g (pUn u n (10 + 265 * l) k g p).2.2 := by
  intro k
  induction k with
  | zero => intro N g p h _; exact ⟨gInv_mono (by omega) h, gKp_refl⟩
  | succ k ih =>
    intro N g p h hlm
    unfold pUn
    by_cases c6 : 24 ≤ g (10 + 265 * l + 6)
    · rw [if_pos c6]
      exact ⟨gInv_mono (by omega) h, gKp_refl⟩
    · rw [if_neg c6]
      by_cases cv : txT u n p = 2 ∧ 1 ≤ txV u n p ∧ txV u n p ≤ 9
      · rw [if_pos cv]
        obtain ⟨a, b, c⟩ := gInv_td h hl hlm (by omega) cv.2
        by_cases cm : txN u n p < n ∧ txK (u (txN u n p)) = 2
        · rw [if_pos cm]
          obtain ⟨i, j⟩ := ih (N + 1) (gTd g (10 + 265 * l) (txV u n p)) (txN u n p) a (by rw [c]; exact hlm)
          exact ⟨gInv_mono (by omega) i, gKp_trans b j⟩
        · rw [if_neg cm]
          exact ⟨gInv_mono (by omega) a, b⟩
      · rw [if_neg cv]
        exact ⟨gInv_mono (by omega) h, gKp_refl⟩
/-! ### a new line -/
theorem gNl_out {g : Int → Int} {B s no de un oc li j : Int} (h : j < B ∨ B + 265 ≤ j) : gNl g B s no de un oc li j = g j := by
  unfold gNl rEmp
  rw [mfil_out (by omega), mfil_out (by omega), zup1_ne (by omega), zup1_ne (by omega), zup1_ne (by omega), zup1_ne (by omega), zup1_ne (by omega), zup1_ne (by omega)]
  exact mfil_out (by omega)
theorem gNl_mid {g : Int → Int} {B s no de un oc li j : Int} (h : (6 ≤ j ∧ j < 69) ∨ (73 ≤ j ∧ j < 265)) : gNl g B s no de un oc li (B + j) = 0 := by
  unfold gNl rEmp
  rw [mfil_out (by omega)]
  by_cases c : 49 ≤ j ∧ j < 69
  · exact mfil_in (by omega) (by omega)
  · rw [mfil_out (by omega), zup1_ne (by omega), zup1_ne (by omega), zup1_ne (by omega), zup1_ne (by omega), zup1_ne (by omega), zup1_ne (by omega)]
    exact mfil_in (by omega) (by omega)
theorem gNl_rep {g : Int → Int} {B s no de un oc li j : Int} (h : 69 ≤ j ∧ j < 73) : gNl g B s no de un oc li (B + j) = -1 := by
  unfold gNl rEmp
  exact mfil_in (by omega) (by omega)
theorem gNl_at {g : Int → Int} {B s no de un oc li : Int} : gNl g B s no de un oc li (B + 0) = s ∧ gNl g B s no de un oc li (B + 1) = no ∧ gNl g B s no de un oc li (B + 2) = de ∧ gNl g B s no de un oc li (B + 3) = un ∧ gNl g B s no de un oc li (B + 4) = oc ∧ gNl g B s no de un oc li (B + 5) = li := by
  unfold gNl rEmp
  refine ⟨?_, ?_, ?_, ?_, ?_, ?_⟩ <;> rw [mfil_out (by omega), mfil_out (by omega)] <;> simp (disch := omega) only [zup1_ne, zup1_eq]
theorem pMv_rng {u : Int → Int} {n w lo hi df e p : Int} (h : (pMb u n w lo hi e p).1 = -1) (hp : 0 ≤ p) (hw : 9 ≤ w) (hd : lo ≤ df ∧ df ≤ hi) : lo ≤ pMv u n w df e p ∧ pMv u n w df e p ≤ hi := by
  unfold pMb at h
  unfold pMv
  by_cases c : e = -1 ∧ txT u n p = w
  · rw [if_pos c] at h ⊢
    split at h
    · rename_i z
      exact z.2
    · have h : txN u n p = -1 := h
      have := txN_rng (u := u) (txT_lt (u := u) (n := n) (p := p) (by omega))
      omega
  · rw [if_neg c]
    exact hd

theorem pMb_e {u : Int → Int} {n w lo hi e p : Int} (h : (pMb u n w lo hi e p).1 = -1) : e = -1 := by
  unfold pMb at h
  split at h
  · rename_i z
    exact z.1
  · exact h
theorem pMb_p {u : Int → Int} {n w lo hi e p : Int} (hw : 9 ≤ w) (h : 0 ≤ p) : 0 ≤ (pMb u n w lo hi e p).2 := by
  unfold pMb
  by_cases c : e = -1 ∧ txT u n p = w
  · have := txN_rng (u := u) (txT_lt (u := u) (n := n) (p := p) (by omega))
    rw [if_pos c]
    by_cases c2 : txT u n (txN u n p) = 2 ∧ lo ≤ txV u n (txN u n p) ∧ txV u n (txN u n p) ≤ hi
    · rw [if_pos c2]
      have := txN_rng (u := u) (txT_lt (u := u) (n := n) (p := txN u n p) (by omega))
      show 0 ≤ txN u n (txN u n p)
      omega
    · rw [if_neg c2]
      show 0 ≤ txN u n p
      omega
  · rw [if_neg c]
    exact h
theorem pSt_rng {u : Int → Int} {n p : Int} : 0 ≤ (pSt u n p).1 ∧ (pSt u n p).1 ≤ 2 := by
  unfold pSt
  split
  · show (0 : Int) ≤ 2 ∧ (2 : Int) ≤ 2
    decide
  · split
    · show (0 : Int) ≤ 1 ∧ (1 : Int) ≤ 2
      decide
    · show (0 : Int) ≤ 0 ∧ (0 : Int) ≤ 2
      decide
theorem gInv_nl {N s no de un oc li : Int} {g : Int → Int} (h : gInv N g) (h4 : g 3 < 4) (hs : 0 ≤ s ∧ s ≤ 2) (hno : 0 ≤ no ∧ no ≤ 100) (hde : 1 ≤ de ∧ de ≤ 4) (hun : 1 ≤ un ∧ un ≤ 8) (hoc : 9 ≤ oc ∧ oc ≤ 60) (hli : 1 ≤ li ∧ li ≤ 20) : gInv N (zup1 (gNl g (10 + 265 * g 3) s no de un oc li) 3 (g 3 + 1)) ∧ gKp g (zup1 (gNl g (10 + 265 * g 3) s no de un oc li) 3 (g 3 + 1)) := by
  obtain ⟨⟨m0, m4, hG, hI⟩, t0, t1⟩ := h
  have e : ∀ j, j ≠ 3 → (j < 10 + 265 * g 3 ∨ 10 + 265 * g 3 + 265 ≤ j) → zup1 (gNl g (10 + 265 * g 3) s no de un oc li) 3 (g 3 + 1) j = g j := fun j a b => (zup1_ne a).trans (gNl_out b)
  obtain ⟨a0, a1, a2, a3, a4, a5⟩ := gNl_at (g := g) (B := 10 + 265 * g 3) (s := s) (no := no) (de := de) (un := un) (oc := oc) (li := li)
  have mid : ∀ j, (6 ≤ j ∧ j < 69) ∨ (73 ≤ j ∧ j < 265) → gNl g (10 + 265 * g 3) s no de un oc li (10 + 265 * g 3 + j) = 0 := fun j hj => gNl_mid hj
  refine ⟨⟨⟨by rw [zup1_eq rfl]; omega, by rw [zup1_eq rfl]; omega, ?_, fun o o0 o1 => ?_⟩, by rw [e 7 (by decide) (by omega)]; exact t0, by rw [e 7 (by decide) (by omega)]; exact t1⟩, fun j hj => e j (by omega) (by omega)⟩
  · unfold zGR
    rw [e 4 (by decide) (by omega), e 5 (by decide) (by omega), e 6 (by decide) (by omega), e 8 (by decide) (by omega)]
    exact hG
  · rw [zup1_eq rfl] at o1
    by_cases c : o = g 3
    · subst c
      rw [zup1_ne (show 10 + 265 * g 3 + 15 ≠ 3 by omega), zup1_ne (show 10 + 265 * g 3 + 14 ≠ 3 by omega), mid 15 (by omega), mid 14 (by omega)]
      refine ⟨zLI_eq (g := gNl g (10 + 265 * g 3) s no de un oc li) (fun j j0 j1 => zup1_ne (by omega)) ?_, Int.le_refl 0⟩
      refine ⟨?_, ⟨fun k k0 k1 => ?_, fun k k0 k1 => ?_⟩, ?_, fun k k0 k1 => ?_, fun k k0 k1 => ?_⟩
      · unfold rLR
        rw [a0, a1, a2, a3, a4, a5, mid 6 (by omega), mid 7 (by omega), mid 8 (by omega), mid 9 (by omega), mid 10 (by omega), mid 11 (by omega), mid 12 (by omega), mid 13 (by omega), mid 14 (by omega), mid 15 (by omega), mid 16 (by omega)]
        exact ⟨hs, hno, hde, hun, hoc, hli, by decide, by decide, by decide, by decide, by decide, by decide, by decide, by decide, by decide, by decide, by decide⟩
      · rw [mid 7 (by omega)] at k1
        omega
      · rw [mid 6 (by omega)] at k1
        omega
      · unfold zLH
        rw [mid 8 (by omega), mid 7 (by omega), mid 9 (by omega)]
        exact ⟨Or.inl rfl, fun _ => rfl, fun _ => rfl⟩
      · rw [mid (49 + 5 * k + 0) (by omega), mid (49 + 5 * k + 3) (by omega)]
        exact ⟨by decide, by decide, fun _ => rfl, fun z => absurd z (by decide)⟩
      · rw [mid 7 (by omega)] at k1
        omega
    · rw [e _ (by omega) (by omega), e _ (by omega) (by omega)]
      exact ⟨zLI_eq (fun j j0 j1 => e j (by omega) (by omega)) (hI o o0 (by omega)).1, (hI o o0 (by omega)).2⟩
theorem gInv_al {N n b p : Int} {u g : Int → Int} (h : gInv N g) (hb : 0 ≤ b) (hp : 0 ≤ p) : gInv N (pAl u n g b p).2.2 ∧ gKp g (pAl u n g b p).2.2 := by
  unfold pAl pNw
  generalize he : (if g 3 = 4 then b else -1) = e
  by_cases c : (pL5 u n e p).1 = -1
  · have c4 : (pL4 u n e p).1 = -1 := pMb_e c
    have c3 : (pL3 u n e p).1 = -1 := pMb_e c4
    have c2 : (pL2 u n e p).1 = -1 := pMb_e c3
    have c1 : (pL1 u n e p).1 = -1 := pMb_e c2
    have c0 : e = -1 := pMb_e c1
    have p1 : 0 ≤ (pL1 u n e p).2 := pMb_p (by decide) hp
    have p2 : 0 ≤ (pL2 u n e p).2 := pMb_p (by decide) p1
    have p3 : 0 ≤ (pL3 u n e p).2 := pMb_p (by decide) p2
    have p4 : 0 ≤ (pL4 u n e p).2 := pMb_p (by decide) p3
    have g4 : g 3 < 4 := by
      have := h.1.2.1
      by_cases y : g 3 = 4
      · rw [if_pos y] at he
        omega
      · omega
    rw [if_pos c]
    exact gInv_nl h g4 pSt_rng (pMv_rng c1 hp (by decide) (by decide)) (pMv_rng c2 p1 (by decide) (by decide)) (pMv_rng c3 p2 (by decide) (by decide)) (pMv_rng c4 p3 (by decide) (by decide)) (pMv_rng c p4 (by decide) (by decide))
  · rw [if_neg c]
    exact ⟨h, gKp_refl⟩
theorem gInv_au {N n p : Int} {u g : Int → Int} (h : gInv N g) : gInv (N + 12) (pAu u n g p).2.2 ∧ gKp g (pAu u n g p).2.2 := by
  unfold pAu
  by_cases c : txT u n p = 2 ∧ 0 ≤ txV u n p ∧ txV u n p ≤ g 3 - 1
  · rw [if_pos c]
    by_cases c2 : txT u n (txN u n p) = 17
    · rw [if_pos c2]
      exact gInv_un c.2.1 12 N g _ h (by omega)
    · rw [if_neg c2]
      exact ⟨gInv_mono (by omega) h, gKp_refl⟩
  · rw [if_neg c]
    exact ⟨gInv_mono (by omega) h, gKp_refl⟩
/-! ### a line of the text, and all of them -/
def pTl (u : Int → Int) (n : Int) (g : Int → Int) (p : Int) : Int × Int × (Int → Int) := if txT u n p = 9 then pAl u n g p (txN u n p) else if txT u n p = 12 then pAu u n g (txN u n p) else if txT u n p = 18 then (if txT u n (txN u n p) = 2 ∧ 0 ≤ txV u n (txN u n p) ∧ txV u n (txN u n p) ≤ 999 then (-1, txN u n (txN u n p), zup1 g 4 (txV u n (txN u n p))) else (txN u n p, 0, g)) else (p, 0, g)
def pTs (u : Int → Int) (n : Int) : Nat → (Int → Int) → Int → Int × Int × (Int → Int)
  | 0, g, p => (p, 0, g)
  | k + 1, g, p => if (pTl u n g p).1 = -1 then (if (pTl u n g p).2.1 = n then (-1, n, (pTl u n g p).2.2) else if txT u n (pTl u n g p).2.1 = 3 then pTs u n k (pTl u n g p).2.2 (txN u n (pTl u n g p).2.1) else ((pTl u n g p).2.1, 0, (pTl u n g p).2.2)) else ((pTl u n g p).1, 0, (pTl u n g p).2.2)
def pTx (u : Int → Int) (n : Int) (g : Int → Int) : Int × Int × (Int → Int) := if txS u n 0 < n then pTs u n 14 g (txS u n 0) else (-1, n, g)
theorem gInv_tl {N n p : Int} {u g : Int → Int} (h : gInv N g) (hp : 0 ≤ p) : gInv (N + 12) (pTl u n g p).2.2 ∧ gKp g (pTl u n g p).2.2 := by
  unfold pTl
  by_cases c9 : txT u n p = 9
  · have := txN_rng (u := u) (txT_lt (u := u) (n := n) (p := p) (by omega))
    rw [if_pos c9]
    have a := gInv_al (u := u) (n := n) (b := p) (p := txN u n p) h hp (by omega)
    exact ⟨gInv_mono (by omega) a.1, a.2⟩
  · rw [if_neg c9]
    by_cases c12 : txT u n p = 12
    · rw [if_pos c12]
      exact gInv_au h
    · rw [if_neg c12]
      by_cases c18 : txT u n p = 18
      · rw [if_pos c18]
        by_cases cv : txT u n (txN u n p) = 2 ∧ 0 ≤ txV u n (txN u n p) ∧ txV u n (txN u n p) ≤ 999
        · rw [if_pos cv]
          show gInv (N + 12) (zup1 g 4 (txV u n (txN u n p))) ∧ gKp g (zup1 g 4 (txV u n (txN u n p)))
          obtain ⟨⟨m0, m4, hG, hI⟩, t0, t1⟩ := h
          refine ⟨⟨⟨by rw [zup1_ne (by decide)]; exact m0, by rw [zup1_ne (by decide)]; exact m4, ?_, fun o o0 o1 => ?_⟩, by rw [zup1_ne (by decide)]; exact t0, by rw [zup1_ne (by decide)]; omega⟩, fun j hj => zup1_ne (by omega)⟩
          · obtain ⟨g4, g5, g6, g8⟩ := hG
            unfold zGR
            rw [zup1_eq rfl, zup1_ne (show (5 : Int) ≠ 4 by decide), zup1_ne (show (6 : Int) ≠ 4 by decide), zup1_ne (show (8 : Int) ≠ 4 by decide)]
            exact ⟨⟨cv.2.1, by omega⟩, ⟨g5.1, by omega⟩, g6, g8⟩
          · rw [zup1_ne (by decide)] at o1
            rw [zup1_ne (by omega), zup1_ne (by omega)]
            exact ⟨zLI_mono (by omega) (zLI_eq (fun j j0 j1 => zup1_ne (by omega)) (hI o o0 o1).1), (hI o o0 o1).2⟩
        · rw [if_neg cv]
          exact ⟨gInv_mono (by omega) h, gKp_refl⟩
      · rw [if_neg c18]
        exact ⟨gInv_mono (by omega) h, gKp_refl⟩

theorem txN_0 {u : Int → Int} {n p : Int} (h : txT u n p ≠ 0) (hp : 0 ≤ p) : 0 ≤ txN u n p := by
  have := txN_rng (u := u) (txT_lt h)
  omega
theorem pUn_p {u : Int → Int} {n B : Int} : ∀ (k : Nat) (g : Int → Int) (p : Int), 0 ≤ p → 0 ≤ (pUn u n B k g p).2.1 := by
  intro k
  induction k with
  | zero => intro g p _; exact Int.le_refl 0
  | succ k ih =>
    intro g p hp
    unfold pUn
    split
    · exact Int.le_refl 0
    · split
      · rename_i cv
        have := txN_0 (u := u) (n := n) (p := p) (by omega) hp
        split
        · exact ih _ _ this
        · exact this
      · exact Int.le_refl 0
theorem pTl_p {u : Int → Int} {n : Int} {g : Int → Int} {p : Int} (hp : 0 ≤ p) : 0 ≤ (pTl u n g p).2.1 := by
  unfold pTl
  by_cases c9 : txT u n p = 9
  · have h1 := txN_0 (u := u) (n := n) (p := p) (by omega) hp
    rw [if_pos c9]
    unfold pAl
    generalize (if g 3 = 4 then p else -1) = e
    split
    · have : 0 ≤ (pL5 u n e (txN u n p)).2 := pMb_p (by decide) (pMb_p (by decide) (pMb_p (by decide) (pMb_p (by decide) (pMb_p (by decide) h1))))
      show 0 ≤ (pSt u n (pL5 u n e (txN u n p)).2).2
      unfold pSt
      split
      · exact txN_0 (by omega) this
      · split
        · exact txN_0 (by omega) this
        · exact this
    · exact Int.le_refl 0
  · rw [if_neg c9]
    by_cases c12 : txT u n p = 12
    · have h1 := txN_0 (u := u) (n := n) (p := p) (by omega) hp
      rw [if_pos c12]
      unfold pAu
      split
      · split
        · exact pUn_p 12 g _ (txN_0 (by omega) (txN_0 (by omega) h1))
        · exact Int.le_refl 0
      · exact Int.le_refl 0
    · rw [if_neg c12]
      split
      · rename_i c18
        have h1 := txN_0 (u := u) (n := n) (p := p) (by omega) hp
        split
        · exact txN_0 (by omega) h1
        · exact Int.le_refl 0
      · exact Int.le_refl 0
theorem gInv_ts {n : Int} {u : Int → Int} : ∀ (k : Nat) (N : Int) (g : Int → Int) (p : Int), gInv N g → 0 ≤ p → gInv (N + 12 * k) (pTs u n k g p).2.2 ∧ gKp g (pTs u n k g p).2.2 := by
  intro k
  induction k with
  | zero => intro N g p h _; exact ⟨gInv_mono (by omega) h, gKp_refl⟩
  | succ k ih =>
    intro N g p h hp
    obtain ⟨a, b⟩ := gInv_tl (u := u) (n := n) h hp
    unfold pTs
    by_cases c : (pTl u n g p).1 = -1
    · rw [if_pos c]
      by_cases c2 : (pTl u n g p).2.1 = n
      · rw [if_pos c2]
        exact ⟨gInv_mono (by omega) a, b⟩
      · rw [if_neg c2]
        by_cases c3 : txT u n (pTl u n g p).2.1 = 3
        · rw [if_pos c3]
          have hlt := txT_lt (u := u) (n := n) (p := (pTl u n g p).2.1) (by omega)
          have hr := txN_rng (u := u) hlt
          have := pTl_p (u := u) (n := n) (g := g) hp
          obtain ⟨i, j⟩ := ih (N + 12) _ (txN u n (pTl u n g p).2.1) a (by omega)
          exact ⟨gInv_mono (by omega) i, gKp_trans b j⟩
        · rw [if_neg c3]
          exact ⟨gInv_mono (by omega) a, b⟩
    · rw [if_neg c]
      exact ⟨gInv_mono (by omega) a, b⟩

theorem gInv_tx {N n : Int} {u g : Int → Int} (hn : 0 ≤ n) (h : gInv N g) : gInv (N + 168) (pTx u n g).2.2 ∧ gKp g (pTx u n g).2.2 := by
  unfold pTx
  have := txS_rng (u := u) hn
  split
  · exact gInv_ts 14 N g _ h (by omega)
  · exact ⟨gInv_mono (by omega) h, gKp_refl⟩

