/-! ## a text of lines: the class, whole -/
theorem c_unitsBad2 {q : Int × (Int → Int)} {d : Nat} {f : Int → Int → Int} {t : (Int → Int) × Nat × Nat × Nat × (Int → Int → Bool)} {u : Int → Int} {W T b n p e : Int} (h : zTC f t.1 T u n p e) (he : e ≠ -1) : ∃ f2, zD (true, q) (d + 3) zc_Wor_readUnits (zat zc_Wor_readUnits 13) [(18, W, 0), (15, T, 0), (13, b, 0), (2, 0, 0), (2, 0, 0), (2, 0, 0)] [] (f, t) = some ((9, 0, 0), (f2, t)) ∧ zTC f2 t.1 T u n p e ∧ zFP T f f2 := by
  rw [zb_Wor_readUnits_13, zb_Wor_readUnits_17, if_neg (by decide), zb_Wor_readUnits_20, if_neg (by decide), zb_Wor_readUnits_22, if_neg (by decide), zb_Wor_readUnits_25]
  by_cases c : (f, t).1 (b + 1) 4 < 24
  · rw [if_pos c]
    exact c_unitsBad (g := u) (by decide) (by decide) h he
  · obtain ⟨f1, r1, h1, fr1⟩ := c_fail (q := q) (d := d + 2) (σ := (f, t)) h
    rw [if_neg he] at h1
    obtain ⟨f2, r2, h2, fr2⟩ := c_unitsBad (q := q) (d := d) (t := t) (g := u) (W := W) (b := b) (c := 0) (v5 := (2, 0, 0)) (by decide) (by decide) h1 he
    rw [if_neg c, zb_Wor_readUnits_30, r1, zK_v, r2]
    exact ⟨f2, rfl, h2, zFP_trans fr1 fr2⟩
theorem c_tlUnits {q : Int × (Int → Int)} {d : Nat} {f : Int → Int → Int} {t : (Int → Int) × Nat × Nat × Nat × (Int → Int → Bool)} {u g : Int → Int} {W T n p N : Int} (hT : W + 95 ≤ T) (h : zTC f t.1 T u n p (-1)) (hG : zGC f W g) (hL : zWL f W g) (hI : gInv N g) (hN : N ≤ 1800000) : ∃ f2, zM (true, q) (d + 3) 52 [(18, W, 0), (15, T, 0)] (f, t) = some ((9, 0, 0), (f2, t)) ∧ tRes f2 t.1 T W u n (pAu u n g p) ∧ tFr T W f f2 := by
  have m0 := hI.1.1
  have m4 := hI.1.2.1
  have hp := zTC_p h
  have e3 : f W 4 = g 3 := hG.1
  rw [ze_Wor_readUnits, zb_Wor_readUnits_0]
  show ∃ f2, zK _ _ _ _ _ _ (zM (true, q) (d + 2) 48 [(15, T, 0), (0, 0, 0), (0, zw (f W 4 - 1), 0)] (f, t)) = _ ∧ _
  rw [e3, zw_id (by omega) (by omega)]
  obtain ⟨f1, r1, h1, fr1⟩ := c_number (q := q) (d := d + 1) (σ := (f, t)) (lo := 0) (hi := g 3 - 1) h
  have fr1 : zFP T f f1 := fr1
  unfold pAu
  by_cases cv : txT u n p = 2 ∧ 0 ≤ txV u n p ∧ txV u n p ≤ g 3 - 1
  · have y : (-1 : Int) = -1 ∧ (txT u n p = 2 ∧ 0 ≤ txV u n p ∧ txV u n p ≤ g 3 - 1) := ⟨rfl, cv⟩
    rw [if_pos y, if_neg (fun z => z.2 cv)] at h1
    rw [if_pos y] at r1
    have r1 : zM (true, q) (d + 2) 48 [(15, T, 0), (0, 0, 0), (0, g 3 - 1, 0)] (f, t) = some ((0, txV u n p, 0), (f1, t)) := r1
    have hla := c_lineAt (q := q) (d := d + 2) (σ := (f1, t)) (W := W) cv.2.1 (by omega)
    obtain ⟨f2, r2, h2, fr2⟩ := c_needs (q := q) (d := d) (σ := (f1, t)) (W := 17) h1 (by decide)
    have r2 : zM (true, q) (d + 2) 49 [(15, T, 0), (5, 17, 0)] (f1, t) = some ((9, 0, 0), (f2, t)) := r2
    have fr2 : zFP T f1 f2 := fr2
    have hp1 := zTC_p h1
    rw [r1, zK_i, zb_Wor_readUnits_8, hla, zK_13, zb_Wor_readUnits_9, r2, zK_v, if_pos cv]
    by_cases c7 : txT u n (txN u n p) = 17
    · have y2 : (-1 : Int) = -1 ∧ txT u n (txN u n p) = 17 := ⟨rfl, c7⟩
      rw [if_pos y2, if_neg (fun z => z.2 c7)] at h2
      obtain ⟨G2, L2⟩ := tGW_fr (f2 := f2) hI (fun o k _ o1 => (fr2 o k (by omega)).trans (fr1 o k (by omega))) hG hL
      obtain ⟨f3, r3, z3, i3⟩ := lc_units (q := q) (d := d) (t := t) (l := txV u n p) hT cv.2.1 12 N g (txN u n (txN u n p)) 0 f2 (2, 0, 0) h2 G2 L2 hI (by omega) (by omega) (by decide) (by decide)
      rw [zb_Wor_readUnits_13, r3, if_pos c7]
      exact ⟨f3, rfl, z3, tFr_trans (tFr_p (zFP_trans fr1 fr2)) i3⟩
    · have y2 : ¬((-1 : Int) = -1 ∧ txT u n (txN u n p) = 17) := fun z => c7 z.2
      rw [if_neg y2, if_pos ⟨rfl, c7⟩] at h2
      obtain ⟨f3, r3, h3, fr3⟩ := c_unitsBad2 (q := q) (d := d) (t := t) (W := W) (b := W + 23 + 18 * txV u n p) h2 (by omega)
      rw [r3, if_neg c7]
      exact ⟨f3, rfl, ⟨_, _, h3, fun z => by have z : txN u n p = -1 := z; omega, fun _ => Or.inl rfl⟩, tFr_p (zFP_trans fr1 (zFP_trans fr2 fr3))⟩
  · have y : ¬((-1 : Int) = -1 ∧ (txT u n p = 2 ∧ 0 ≤ txV u n p ∧ txV u n p ≤ g 3 - 1)) := fun z => cv z.2
    rw [if_neg y, if_pos ⟨rfl, cv⟩] at h1
    rw [if_neg y] at r1
    have r1 : zM (true, q) (d + 2) 48 [(15, T, 0), (0, 0, 0), (0, g 3 - 1, 0)] (f, t) = some ((0, 0, 0), (f1, t)) := r1
    have hla := c_lineAt (q := q) (d := d + 2) (σ := (f1, t)) (W := W) (i := 0) (by decide) (by decide)
    have he : p ≠ -1 := by omega
    obtain ⟨f2, r2, h2, fr2⟩ := c_needs (q := q) (d := d) (σ := (f1, t)) (W := 17) h1 (by decide)
    rw [if_neg (fun z => he z.1), if_neg (fun z => he z.1)] at h2
    have r2 : zM (true, q) (d + 2) 49 [(15, T, 0), (5, 17, 0)] (f1, t) = some ((9, 0, 0), (f2, t)) := r2
    have fr2 : zFP T f1 f2 := fr2
    obtain ⟨f3, r3, h3, fr3⟩ := c_unitsBad2 (q := q) (d := d) (t := t) (W := W) (b := W + 23 + 18 * 0) h2 he
    rw [r1, zK_i, zb_Wor_readUnits_8, hla, zK_13, zb_Wor_readUnits_9, r2, zK_v, if_neg cv, r3]
    exact ⟨f3, rfl, ⟨_, _, h3, fun z => absurd z he, fun _ => Or.inl rfl⟩, tFr_p (zFP_trans fr1 (zFP_trans fr2 fr3))⟩
/-- one line of the text: up to where it goes on -/
theorem c_tl {q : Int × (Int → Int)} {d : Nat} {f : Int → Int → Int} {t : (Int → Int) × Nat × Nat × Nat × (Int → Int → Bool)} {u g : Int → Int} {W T n p N c : Int} (hT : W + 95 ≤ T) (h : zTC f t.1 T u n p (-1)) (hG : zGC f W g) (hL : zWL f W g) (hI : gInv N g) (hN : N ≤ 1800000) : ∃ f2, zD (true, q) (d + 4) zc_Wor_readLines (zat zc_Wor_readLines 21) [(18, W, 0), (15, T, 0), (0, 1, 0), (0, c, 0)] [] (f, t) = zK (zD (true, q) (d + 4) zc_Wor_readLines) zEx zc_Wor_readLines (zat zc_Wor_readLines 45) [(18, W, 0), (15, T, 0), (0, 1, 0), (0, c, 0)] [] (zM (true, q) (d + 3) 54 [(15, T, 0)] (f2, t)) ∧ tRes f2 t.1 T W u n (pTl u n g p) ∧ tFr T W f f2 := by
  have hp := zTC_p h
  obtain ⟨f1, r1, h1, fr1⟩ := c_passes (q := q) (d := d + 2) (σ := (f, t)) (W := 12) h (by decide)
  have fr1 : zFP T f f1 := fr1
  have r1 : zM (true, q) (d + 3) 47 [(15, T, 0), (5, 12, 0)] (f, t) = some ((0, if (-1 : Int) = -1 ∧ txT u n p = 12 then 1 else 0, 0), (f1, t)) := r1
  obtain ⟨G1, L1⟩ := tGW_fr (f2 := f1) hI (fun o k _ o1 => fr1 o k (by omega)) hG hL
  rw [zb_Wor_readLines_21, r1, zK_i, zb_Wor_readLines_24]
  unfold pTl
  by_cases c12 : txT u n p = 12
  · have y : (-1 : Int) = -1 ∧ txT u n p = 12 := ⟨rfl, c12⟩
    rw [if_pos y] at h1
    obtain ⟨f2, r2, z2, i2⟩ := c_tlUnits (q := q) (d := d) (t := t) hT h1 G1 L1 hI hN
    rw [if_pos y, if_neg (by decide), zb_Wor_readLines_25, r2, zK_v, zb_Wor_readLines_28, if_neg (by omega), if_pos c12]
    exact ⟨f2, rfl, z2, tFr_trans (tFr_p fr1) i2⟩
  · have y : ¬((-1 : Int) = -1 ∧ txT u n p = 12) := fun z => c12 z.2
    rw [if_neg y] at h1
    obtain ⟨f2, r2, h2, fr2⟩ := c_passes (q := q) (d := d + 2) (σ := (f1, t)) (W := 18) h1 (by decide)
    have fr2 : zFP T f1 f2 := fr2
    have r2 : zM (true, q) (d + 3) 47 [(15, T, 0), (5, 18, 0)] (f1, t) = some ((0, if (-1 : Int) = -1 ∧ txT u n p = 18 then 1 else 0, 0), (f2, t)) := r2
    obtain ⟨G2, L2⟩ := tGW_fr (f2 := f2) hI (fun o k _ o1 => fr2 o k (by omega)) G1 L1
    rw [if_neg y, if_pos rfl, zb_Wor_readLines_29, r2, zK_i, zb_Wor_readLines_32]
    by_cases c18 : txT u n p = 18
    · have y2 : (-1 : Int) = -1 ∧ txT u n p = 18 := ⟨rfl, c18⟩
      rw [if_pos y2] at h2
      obtain ⟨f3, r3, h3, fr3⟩ := c_number (q := q) (d := d + 2) (σ := (f2, t)) (lo := 0) (hi := 999) h2
      have fr3 : zFP T f2 f3 := fr3
      have hp2 := zTC_p h2
      obtain ⟨G3, L3⟩ := tGW_fr (f2 := f3) hI (fun o k _ o1 => fr3 o k (by omega)) G2 L2
      rw [if_pos y2, if_neg (by decide), zb_Wor_readLines_33]
      have r3 : zM (true, q) (d + 3) 48 [(15, T, 0), (0, 0, 0), (0, 999, 0)] (f2, t) = _ := r3
      rw [r3, zK_i, zb_Wor_readLines_38, if_neg (show ¬txT u n p = 9 by omega), if_neg c12, if_pos c18]
      by_cases cv : txT u n (txN u n p) = 2 ∧ 0 ≤ txV u n (txN u n p) ∧ txV u n (txN u n p) ≤ 999
      · have y3 : (-1 : Int) = -1 ∧ (txT u n (txN u n p) = 2 ∧ 0 ≤ txV u n (txN u n p) ∧ txV u n (txN u n p) ≤ 999) := ⟨rfl, cv⟩
        rw [if_pos y3, if_neg (fun z => z.2 cv)] at h3
        rw [if_pos y3, if_pos cv]
        refine ⟨_, rfl, ⟨_, _, zTC_up (by omega) h3, fun _ => ⟨rfl, rfl, ?_, ?_⟩, fun z => absurd rfl z⟩, tFr_trans (tFr_p (zFP_trans fr1 (zFP_trans fr2 fr3))) (tFr_w (fun o k ho => zup_na (by omega)))⟩
        · show zGC (zup f3 W 6 (txV u n (txN u n p))) W (zup1 g 4 (txV u n (txN u n p)))
          obtain ⟨a1, a2, a3, a4, a5, a6, a7, j1, j2, j3, j4⟩ := G3
          refine ⟨?_, ?_, zupE rfl rfl, ?_, ?_, ?_, ?_, ?_, ?_, ?_, fun ago c b0 b1 c0 c1 => ?_⟩
          · rw [zup_nk (by decide), zup1_ne (by decide)]; exact a1
          · rw [zup_nk (by decide), zup1_ne (by decide)]; exact a2
          · rw [zup_nk (by decide), zup1_ne (by decide)]; exact a4
          · rw [zup_nk (by decide), zup1_ne (by decide)]; exact a5
          · rw [zup_nk (by decide), zup1_ne (by decide)]; exact a6
          · rw [zup_nk (by decide), zup1_ne (by decide)]; exact a7
          · rw [zup_na (by omega), zup1_ne (by decide)]; exact j1
          · rw [zup_na (by omega)]; exact j2
          · rw [zup_na (by omega)]; exact j3
          · rw [zup1_ne (by decide)] at b1
            rw [zup_na (by omega), zup_na (by omega), zup1_ne (by omega)]
            exact j4 ago c b0 b1 c0 c1
        · show zWL (zup f3 W 6 (txV u n (txN u n p))) W (zup1 g 4 (txV u n (txN u n p)))
          intro o o0 o1
          rw [zup1_ne (by decide)] at o1
          rw [zup1_ne (by omega)]
          have hro := (hI.1.2.2.2 o o0 o1).1.1
          exact zLC_eq (fun j j0 j1 => zup1_ne (by omega)) hro (by have := hro.2.2.1; omega) (zLC_fr (fun x k x0 x1 => zup_na (by omega)) (L3 o o0 o1))
      · have y3 : ¬((-1 : Int) = -1 ∧ (txT u n (txN u n p) = 2 ∧ 0 ≤ txV u n (txN u n p) ∧ txV u n (txN u n p) ≤ 999)) := fun z => cv z.2
        rw [if_neg y3, if_pos ⟨rfl, cv⟩] at h3
        rw [if_neg cv]
        exact ⟨_, rfl, ⟨_, _, zTC_up (by omega) h3, fun z => by have z : txN u n p = -1 := z; omega, fun _ => Or.inl rfl⟩, tFr_trans (tFr_p (zFP_trans fr1 (zFP_trans fr2 fr3))) (tFr_w (fun o k ho => zup_na (by omega)))⟩
    · have y2 : ¬((-1 : Int) = -1 ∧ txT u n p = 18) := fun z => c18 z.2
      rw [if_neg y2] at h2
      obtain ⟨f3, r3, z3, i3⟩ := c_tlLine (q := q) (d := d) (t := t) hT h2 G2 L2 hI
      have ex : (if txT u n p = 9 then pAl u n g p (txN u n p) else if txT u n p = 12 then pAu u n g (txN u n p) else if txT u n p = 18 then (if txT u n (txN u n p) = 2 ∧ 0 ≤ txV u n (txN u n p) ∧ txV u n (txN u n p) ≤ 999 then (-1, txN u n (txN u n p), zup1 g 4 (txV u n (txN u n p))) else (txN u n p, 0, g)) else (p, 0, g)) = if txT u n p = 9 then pAl u n g p (txN u n p) else (p, 0, g) := by
        rw [if_neg c12, if_neg c18]
      rw [if_neg y2, if_pos rfl, zb_Wor_readLines_40, r3, zK_v, zb_Wor_readLines_43, ex]
      exact ⟨f3, rfl, z3, tFr_trans (tFr_p (zFP_trans fr1 fr2)) i3⟩

def tEnd (f2 : Int → Int → Int) (T W : Int) (x : Int × Int × (Int → Int)) : Prop := f2 T 5 = x.1 ∧ (x.1 = -1 → zGC f2 W x.2.2 ∧ zWL f2 W x.2.2)
theorem lc_lines {q : Int × (Int → Int)} {d : Nat} {t : (Int → Int) × Nat × Nat × Nat × (Int → Int → Bool)} {u : Int → Int} {W T n : Int} (hT : W + 95 ≤ T) : ∀ (k : Nat) (N : Int) (g : Int → Int) (p c : Int) (f : Int → Int → Int), zTC f t.1 T u n p (-1) → zGC f W g → zWL f W g → gInv N g → N + 12 * k ≤ 1800000 → 0 ≤ c → c + k = 14 → ∃ f2, zD (true, q) (d + 4) zc_Wor_readLines (zat zc_Wor_readLines 10) [(18, W, 0), (15, T, 0), (0, 1, 0), (0, c, 0)] [] (f, t) = some ((9, 0, 0), (f2, t)) ∧ tEnd f2 T W (pTs u n k g p) ∧ tFr T W f f2 := by
  intro k
  have stop : ∀ (c : Int) (f2 : Int → Int → Int), 0 ≤ c → c ≤ 14 → zD (true, q) (d + 4) zc_Wor_readLines (zat zc_Wor_readLines 45) [(18, W, 0), (15, T, 0), (0, 1, 0), (0, c, 0)] [(0, 0, 0)] (f2, t) = some ((9, 0, 0), (f2, t)) := by
    intro c f2 c0 c1
    rw [zb_Wor_readLines_45, zb_Wor_readLines_10, zw_id (by omega) (by omega)]
    by_cases z : 14 < c + 1
    · rw [if_pos z, zb_Wor_readLines_48]
    · rw [if_neg z, zb_Wor_readLines_13, if_pos rfl, zb_Wor_readLines_48]
  induction k with
  | zero =>
    intro N g p c f h hG hL hI hN c0 hc
    have hp := zTC_p h
    obtain ⟨f1, r1, h1, fr1⟩ := c_fail (q := q) (d := d + 3) (σ := (f, t)) h
    rw [if_pos rfl] at h1
    obtain ⟨f2, r2, h2, fr2⟩ := c_goesOn (q := q) (d := d + 1) (σ := (f1, t)) h1
    have he : p ≠ -1 := by omega
    rw [if_neg (fun z => he z.1), if_neg (fun z => he z.1)] at h2
    rw [if_neg (fun z => he z.1)] at r2
    have r2 : zM (true, q) (d + 3) 54 [(15, T, 0)] (f1, t) = some ((0, 0, 0), (f2, t)) := r2
    rw [zb_Wor_readLines_10, if_neg (by omega), zb_Wor_readLines_13, if_neg (by decide), zb_Wor_readLines_15, if_neg (by omega), zb_Wor_readLines_18, r1, zK_v, zb_Wor_readLines_20, r2, zK_i, stop c f2 c0 (by omega)]
    exact ⟨f2, rfl, ⟨h2.2.2.2.2, fun z => by have z : p = -1 := z; omega⟩, tFr_p (zFP_trans fr1 fr2)⟩
  | succ k ih =>
    intro N g p c f h hG hL hI hN c0 hc
    have hp := zTC_p h
    obtain ⟨f1, r1, z1, i1⟩ := c_tl (q := q) (d := d) (t := t) (c := c) hT h hG hL hI (by omega)
    obtain ⟨v1, v2⟩ := gInv_tl (u := u) (n := n) hI hp.1
    rw [zb_Wor_readLines_10, if_neg (by omega), zb_Wor_readLines_13, if_neg (by decide), zb_Wor_readLines_15, if_pos (by omega), r1]
    have hun : pTs u n (k + 1) g p = if (pTl u n g p).1 = -1 then (if (pTl u n g p).2.1 = n then (-1, n, (pTl u n g p).2.2) else if txT u n (pTl u n g p).2.1 = 3 then pTs u n k (pTl u n g p).2.2 (txN u n (pTl u n g p).2.1) else ((pTl u n g p).2.1, 0, (pTl u n g p).2.2)) else ((pTl u n g p).1, 0, (pTl u n g p).2.2) := rfl
    rw [hun]
    generalize pTl u n g p = x at z1 v1 v2
    obtain ⟨e, p1, g1⟩ := x
    obtain ⟨p2, e2, h2, A, B⟩ := z1
    have hp2 := zTC_p h2
    obtain ⟨f2, r2, h3, fr3⟩ := c_goesOn (q := q) (d := d + 1) (σ := (f1, t)) h2
    have fr3 : zFP T f1 f2 := fr3
    have z02 : tFr T W f f2 := tFr_trans i1 (tFr_p fr3)
    have A : e = -1 → e2 = -1 ∧ p2 = p1 ∧ zGC f1 W g1 ∧ zWL f1 W g1 := A
    have B : e ≠ -1 → e2 = e ∨ (e2 = -1 ∧ p2 = e ∧ txT u n p2 ≠ 3 ∧ txT u n p2 ≠ 0) := B
    have v1 : gInv (N + 12) g1 := v1
    show ∃ f3, _ ∧ tEnd f3 T W (if e = -1 then (if p1 = n then (-1, n, g1) else if txT u n p1 = 3 then pTs u n k g1 (txN u n p1) else (p1, 0, g1)) else (e, 0, g1)) ∧ _
    by_cases ce : e = -1
    · obtain ⟨a1, a2, a3, a4⟩ := A ce
      subst ce a1 a2
      obtain ⟨G2, L2⟩ := tGW_fr (f2 := f2) v1 (fun o k _ o1 => fr3 o k (by omega)) a3 a4
      rw [if_pos rfl]
      by_cases c3 : txT u n p2 = 3
      · have y : (-1 : Int) = -1 ∧ txT u n p2 = 3 := ⟨rfl, c3⟩
        have hlt := txT_lt (u := u) (n := n) (p := p2) (by omega)
        rw [if_pos y, if_neg (fun z => z.2.1 c3)] at h3
        rw [if_pos y] at r2
        have r2 : zM (true, q) (d + 3) 54 [(15, T, 0)] (f1, t) = some ((0, 1, 0), (f2, t)) := r2
        rw [if_neg (show ¬p2 = n by omega), if_pos c3, r2, zK_i, zb_Wor_readLines_45, zw_id (by omega) (by omega)]
        obtain ⟨f4, r4, z4, i4⟩ := ih (N + 12) g1 (txN u n p2) (c + 1) f2 h3 G2 L2 v1 (by omega) (by omega) (by omega)
        exact ⟨f4, r4, z4, tFr_trans z02 i4⟩
      · have y : ¬((-1 : Int) = -1 ∧ txT u n p2 = 3) := fun z => c3 z.2
        rw [if_neg y] at h3 r2
        have r2 : zM (true, q) (d + 3) 54 [(15, T, 0)] (f1, t) = some ((0, 0, 0), (f2, t)) := r2
        rw [r2, zK_i, stop c f2 c0 (by omega)]
        refine ⟨f2, rfl, ?_, z02⟩
        by_cases cn : p2 = n
        · have e0 : txT u n p2 = 0 := by
            unfold txT
            rw [if_pos (by omega)]
          rw [if_neg (fun z => z.2.2 e0)] at h3
          rw [if_pos cn]
          exact ⟨h3.2.2.2.2, fun _ => ⟨G2, L2⟩⟩
        · have e0 : txT u n p2 ≠ 0 := txT_n0 (by omega)
          rw [if_pos ⟨rfl, c3, e0⟩] at h3
          rw [if_neg cn, if_neg c3]
          exact ⟨h3.2.2.2.2, fun z => by have z : p2 = -1 := z; omega⟩
    · have key : f2 T 5 = e ∧ ¬(e2 = -1 ∧ txT u n p2 = 3) := by
        rcases B ce with rfl | ⟨b1, b2, b3, b4⟩
        · rw [if_neg (fun z => ce z.1), if_neg (fun z => ce z.1)] at h3
          exact ⟨h3.2.2.2.2, fun z => ce z.1⟩
        · rw [if_neg (fun z => b3 z.2), if_pos ⟨b1, b3, b4⟩] at h3
          exact ⟨h3.2.2.2.2.trans b2, fun z => b3 z.2⟩
      rw [if_neg key.2] at r2
      have r2 : zM (true, q) (d + 3) 54 [(15, T, 0)] (f1, t) = some ((0, 0, 0), (f2, t)) := r2
      rw [if_neg ce, r2, zK_i, stop c f2 c0 (by omega)]
      exact ⟨f2, rfl, ⟨key.1, fun z => absurd z ce⟩, z02⟩
theorem c_readLinesT {q : Int × (Int → Int)} {d : Nat} {f : Int → Int → Int} {t : (Int → Int) × Nat × Nat × Nat × (Int → Int → Bool)} {u g : Int → Int} {W T n N : Int} (hT : W + 95 ≤ T) (h : zTC f t.1 T u n (txS u n 0) (-1)) (hG : zGC f W g) (hL : zWL f W g) (hI : gInv N g) (hN : N + 168 ≤ 1800000) : ∃ f2, zM (true, q) (d + 4) 55 [(18, W, 0), (15, T, 0)] (f, t) = some ((9, 0, 0), (f2, t)) ∧ tEnd f2 T W (pTx u n g) ∧ tFr T W f f2 := by
  have hp := zTC_p h
  have h' : zTC (f, t).1 (f, t).2.1 T u n (txS u n 0) (-1) := h
  rw [ze_Wor_readLines, zb_Wor_readLines_0, c_word h']
  show ∃ f2, zD (true, q) (d + 4) zc_Wor_readLines (zat zc_Wor_readLines 2) _ [(5, txT u n (txS u n 0), 0)] (f, t) = _ ∧ _
  rw [zb_Wor_readLines_2]
  unfold pTx
  by_cases c : txS u n 0 < n
  · rw [if_neg (txT_n0 c), zb_Wor_readLines_4, if_pos c]
    exact lc_lines hT 14 N g (txS u n 0) 0 f h hG hL hI (by omega) (by decide) (by decide)
  · have e0 : txT u n (txS u n 0) = 0 := by
      unfold txT
      rw [if_pos (by omega)]
    rw [if_pos e0, zb_Wor_readLines_6, if_neg c, zb_Wor_readLines_10, if_neg (by decide), zb_Wor_readLines_13, if_pos rfl, zb_Wor_readLines_48]
    exact ⟨f, rfl, ⟨h.2.2.2.2, fun _ => ⟨hG, hL⟩⟩, fun _ _ _ _ => rfl⟩

