/-! ## the law's text: what it says, things first -/
def pB (x : Bool × Int × List Int) (k : Int → List Int → Bool × Int × List Int) : Bool × Int × List Int := if x.1 = true then k x.2.1 x.2.2 else (false, x.2.1, [])
def pNo (p : Int) : Bool × Int × List Int := (false, p, [])
def pPart (u : Int → Int) (n p : Int) : Bool × Int × List Int := if txT u n p = 2 then (if txV u n p ≤ 999 then (true, txN u n p, [txV u n p]) else pNo p) else if 0 ≤ zWfc (txT u n p) ∧ zWfc (txT u n p) < 7 then (true, txN u n p, [-1 - zWfc (txT u n p)]) else pNo p
def pSumL (u : Int → Int) (n : Int) : Nat → Int → List Int → Bool × Int × List Int
  | 0, p, c => (true, p, c)
  | k + 1, p, c => if txT u n p = 8 then pB (pPart u n (txN u n p)) (fun p1 c1 => pSumL u n k p1 (c ++ c1 ++ [-106])) else (true, p, c)
def pSum (u : Int → Int) (n p : Int) : Bool × Int × List Int := pB (pPart u n p) (fun p1 c => pSumL u n (n - p1).toNat p1 c)
def pCmp (u : Int → Int) (n p : Int) : Bool × Int × List Int := pB (pSum u n p) (fun p1 c => if txT u n p1 = 6 ∨ txT u n p1 = 7 then pB (pSum u n (txN u n p1)) (fun p2 c2 => (true, p2, c ++ c2 ++ [if txT u n p1 = 6 then -104 else -105])) else pNo p1)
def pPlain (u : Int → Int) (n p : Int) : Bool × Int × List Int := if 7 ≤ zWfc (txT u n p) then (true, txN u n p, [-1 - zWfc (txT u n p)]) else pCmp u n p
def pEvL (u : Int → Int) (n : Int) (A : Int → Bool × Int × List Int) : Nat → Int → List Int → Bool × Int × List Int
  | 0, p, c => (true, p, c)
  | k + 1, p, c => if txT u n p = 24 then pB (A (txN u n p)) (fun p1 c1 => pEvL u n A k p1 (c ++ c1 ++ [-102])) else (true, p, c)
def pEv (u : Int → Int) (n : Int) (A : Int → Bool × Int × List Int) (p : Int) : Bool × Int × List Int := pB (A p) (fun p1 c => pEvL u n A (n - p1).toNat p1 c)
def pSoL (u : Int → Int) (n : Int) (A : Int → Bool × Int × List Int) : Nat → Int → List Int → Bool × Int × List Int
  | 0, p, c => (true, p, c)
  | k + 1, p, c => if txT u n p = 23 then pB (pEv u n A (txN u n p)) (fun p1 c1 => pSoL u n A k p1 (c ++ c1 ++ [-103])) else (true, p, c)
def pSo (u : Int → Int) (n : Int) (A : Int → Bool × Int × List Int) (p : Int) : Bool × Int × List Int := pB (pEv u n A p) (fun p1 c => pSoL u n A (n - p1).toNat p1 c)
def pAt (u : Int → Int) (n : Int) : Nat → Int → Bool × Int × List Int
  | 0 => fun p => if txT u n p = 25 ∨ txT u n p = 4 then pNo p else pPlain u n p
  | r + 1 => fun p => if txT u n p = 25 then pB (pAt u n r (txN u n p)) (fun p1 c => (true, p1, c ++ [-101])) else if txT u n p = 4 then pB (pSo u n (pAt u n r) (txN u n p)) (fun p1 c => if txT u n p1 = 5 then (true, txN u n p1, c) else pNo p1) else pPlain u n p
/-! ### what it is worth -/
def zjn (c a b : Int) : Int := if c = -102 then zand a b else if c = -103 then zor a b else if c = -104 then (if a < b then 1 else 0) else if c = -105 then (if b < a then 1 else 0) else zw (a + b)
def zst1 (φ : Int → Int) (c : Int) (st : List Int) : List Int := if 0 ≤ c then c :: st else if -101 < c then φ (-1 - c) :: st else if c = -101 then zw (1 - st.headD 0) :: st.tail else zjn c (st.tail.headD 0) (st.headD 0) :: st.tail.tail
def zev (φ : Int → Int) : List Int → List Int → List Int
  | [], st => st
  | c :: l, st => zev φ l (zst1 φ c st)
theorem zev_app {φ : Int → Int} : ∀ (a b st : List Int), zev φ (a ++ b) st = zev φ b (zev φ a st) := by
  intro a
  induction a with
  | nil => intro b st; rfl
  | cons c l ih => intro b st; exact ih b (zst1 φ c st)
/-- two values and what joins them -/
theorem zev_2 {φ : Int → Int} {a b : List Int} {x y c : Int} (hc : c ≤ -102) (h1 : ∀ st, zev φ a st = x :: st) (h2 : ∀ st, zev φ b st = y :: st) (st : List Int) : zev φ (a ++ b ++ [c]) st = zjn c x y :: st := by
  rw [zev_app, zev_app, h1, h2]
  show zst1 φ c (y :: x :: st) = zjn c x y :: st
  unfold zst1
  rw [if_neg (by omega), if_neg (by omega), if_neg (by omega)]
  rfl
theorem zev_not {φ : Int → Int} {a : List Int} {x : Int} (h1 : ∀ st, zev φ a st = x :: st) (st : List Int) : zev φ (a ++ [-101]) st = zw (1 - x) :: st := by
  rw [zev_app, h1]
  show zst1 φ (-101) (x :: st) = zw (1 - x) :: st
  unfold zst1
  rw [if_neg (by decide), if_neg (by decide), if_pos rfl]
  rfl
theorem zev_n {φ : Int → Int} {v : Int} (h : 0 ≤ v) (st : List Int) : zev φ [v] st = v :: st := by
  show zst1 φ v st = _
  unfold zst1
  rw [if_pos h]
theorem zev_f {φ : Int → Int} {k : Int} (h : 0 ≤ k) (h2 : k < 10) (st : List Int) : zev φ [-1 - k] st = φ k :: st := by
  show zst1 φ (-1 - k) st = _
  unfold zst1
  rw [if_neg (by omega), if_pos (by omega), show -1 - (-1 - k) = k by omega]
/-! ### the reference's runs -/
def zFT (f f2 : Int → Int → Int) : Prop := ∀ o k, (o ≠ 1464 ∨ (k ≠ 11 ∧ k ≠ 12 ∧ k ≠ 13)) → f2 o k = f o k
theorem zFT_refl {f : Int → Int → Int} : zFT f f := fun _ _ _ => rfl
theorem zFT_trans {f f2 f3 : Int → Int → Int} (h : zFT f f2) (h2 : zFT f2 f3) : zFT f f3 := fun o k a => (h2 o k a).trans (h o k a)
theorem zFT_11 {f : Int → Int → Int} {v : Int} : zFT f (zup f 1464 11 v) := fun o k a => zup_nka (by omega)
theorem zFT_12 {f : Int → Int → Int} {v : Int} : zFT f (zup f 1464 12 v) := fun o k a => zup_nka (by omega)
theorem zFT_13 {f : Int → Int → Int} {v : Int} : zFT f (zup f 1464 13 v) := fun o k a => zup_nka (by omega)
theorem RT_ft {f f2 : Int → Int → Int} {g u : Int → Int} {n : Int} (e : zFT f f2) (h : RT f g u n) : RT f2 g u n := by
  obtain ⟨a, b, c, h2⟩ := h
  refine ⟨a, b, (e _ _ (by omega)).trans c, ?_⟩
  rcases h2 with ⟨h3, h4⟩ | ⟨h3, h4⟩
  · exact Or.inl ⟨(e _ _ (by omega)).trans h3, fun k k0 k1 => (e _ _ (by omega)).trans (h4 k k0 k1)⟩
  · exact Or.inr ⟨(e _ _ (by omega)).trans h3, h4⟩
def XF (f : Int → Int → Int) (φ : Int → Int) : Prop := (∀ k, 0 ≤ k → k < 7 → f 1470 k = φ k) ∧ f 1464 15 = φ 7 ∧ f 1464 16 = φ 8 ∧ f 1464 17 = φ 9 ∧ (φ 7 = 0 ∨ φ 7 = 1) ∧ (φ 8 = 0 ∨ φ 8 = 1) ∧ (φ 9 = 0 ∨ φ 9 = 1)
theorem XF_ft {f f2 : Int → Int → Int} {φ : Int → Int} (e : zFT f f2) (h : XF f φ) : XF f2 φ := by
  obtain ⟨a, b, c, h2, h3⟩ := h
  exact ⟨fun k k0 k1 => (e _ _ (by omega)).trans (a k k0 k1), (e _ _ (by omega)).trans b, (e _ _ (by omega)).trans c, (e _ _ (by omega)).trans h2, h3⟩
/-- how a run ends that has read x and is worth v -/
def XO (f f2 : Int → Int → Int) (u : Int → Int) (n r : Int) (φ : Int → Int) (x : Bool × Int × List Int) (v : Int) : Prop := zFT f f2 ∧ 0 ≤ f2 1464 11 ∧ (x.1 = true → f2 1464 12 = -1 ∧ f2 1464 13 = f 1464 13 ∧ f2 1464 11 ≤ n ∧ txS u n (f2 1464 11) = x.2.1 ∧ ∀ st, zev φ x.2.2 st = v :: st) ∧ (x.1 ≠ true → f2 1464 12 = x.2.1 ∧ f2 1464 11 ≤ n + r ∧ 0 ≤ x.2.1)
theorem tx_fst : ∀ w : Nat, w < 33 → 3 ≤ w → (1 ≤ (zTx (zWtx (w : Int))).length ∧ txK ((zTx (zWtx (w : Int))).getD 0 0) ≠ 2) := by decide
theorem tx_dig {u : Int → Int} {n p w : Int} (h : txT u n p = w) (hw : 3 ≤ w ∧ w < 33) : txK (u p) ≠ 2 := by
  obtain ⟨a1, _, a3⟩ := txT_is h hw.1
  have z := tx_fst w.toNat (by omega) (by omega)
  rw [show ((w.toNat : Nat) : Int) = w by omega] at z
  unfold txM at a3
  split at a3
  · have := txMS_at _ _ a3 0 (by omega)
    rw [this] at z
    simpa using z.2
  · exact absurd a3 (by decide)
theorem txT_rng {u : Int → Int} {n p : Int} : 0 ≤ txT u n p ∧ txT u n p < 33 := by
  unfold txT
  split
  · decide
  · split
    · decide
    · rcases zfst_rng (p := fun i => txM u (zWtx i) p (txE u n p)) (no := 1) 33 0 with h | h
      · rw [h]; decide
      · omega
theorem txF7a : ∀ w : Nat, w < 33 → (0 ≤ zWfc (w : Int) ∧ zWfc (w : Int) < 7) → w ∈ [9, 29, 30, 31, 32, 11, 18] := by decide
theorem txF7b : ∀ w : Nat, w < 33 → 7 ≤ zWfc (w : Int) → w ∈ [26, 27, 28] := by decide
theorem txF7 {w : Int} (h : 0 ≤ w) (h2 : w < 33) : (0 ≤ zWfc w → zWfc w < 7 → w = 9 ∨ w = 29 ∨ w = 30 ∨ w = 31 ∨ w = 32 ∨ w = 11 ∨ w = 18) ∧ (7 ≤ zWfc w → w = 26 ∨ w = 27 ∨ w = 28) := by
  have a := txF7a w.toNat (by omega)
  have b := txF7b w.toNat (by omega)
  rw [show ((w.toNat : Nat) : Int) = w by omega] at a b
  simp only [List.mem_cons, List.not_mem_nil, or_false] at a b
  refine ⟨fun x y => ?_, fun x => ?_⟩
  · have := a ⟨x, y⟩
    omega
  · have := b x
    omega
theorem x_wrong {q : Int × (Int → Int)} {d : Nat} {f : Int → Int → Int} {t : (Int → Int) × Nat × Nat × Nat × (Int → Int → Bool)} {g : Int → Int} {p : Int} (hf : f 1464 12 = -1) : zM (true, q) d 62 [(20, 1464, 0), (0, p, 0)] (zrow f 1465 g, t) = some ((9, 0, 0), (zrow (zup f 1464 12 p) 1465 g, t)) := by
  rw [ze_M_wrong, zb_M_wrong_0]
  simp (disch := omega) only [zrow_ne, hf]
  rw [if_neg (by decide), zb_M_wrong_4]
  simp (disch := omega) only [zrow_up]
theorem x_wrong9 {q : Int × (Int → Int)} {d : Nat} {f : Int → Int → Int} {t : (Int → Int) × Nat × Nat × Nat × (Int → Int → Bool)} {g : Int → Int} {p : Int} (hf : f 1464 12 ≠ -1) : zM (true, q) d 62 [(20, 1464, 0), (0, p, 0)] (zrow f 1465 g, t) = some ((9, 0, 0), (zrow f 1465 g, t)) := by
  rw [ze_M_wrong, zb_M_wrong_0]
  simp (disch := omega) only [zrow_ne]
  rw [if_pos hf, zb_M_wrong_7]
theorem x_part {q : Int × (Int → Int)} {d : Nat} {f : Int → Int → Int} {t : (Int → Int) × Nat × Nat × Nat × (Int → Int → Bool)} {g u φ : Int → Int} {n p : Int} (hR : RT f g u n) (hF : XF f φ) (hf : f 1464 12 = -1) (p0 : 0 ≤ f 1464 11) (p1 : f 1464 11 ≤ n) (hp : txS u n (f 1464 11) = p) : ∃ v f2, zM (true, q) (d + 5) 67 [(20, 1464, 0)] (zrow f 1465 g, t) = some ((0, v, 0), (zrow f2 1465 g, t)) ∧ XO f f2 u n 0 φ (pPart u n p) v := by
  have hr := txS_rng (u := u) p1
  rw [hp] at hr
  have hn := hR.2.1
  have h10 := hR.2.2.1
  have hR2 : RT (zup f 1464 11 p) g u n := RT_up (by decide) hR
  have hs : txS u n p = p := txS_id hr.2.2
  have run : zM (true, q) (d + 5) 67 [(20, 1464, 0)] (zrow f 1465 g, t) = zD (true, q) (d + 5) zc_M_part (zat zc_M_part 8) [(20, 1464, 0), (2, 0, 0)] [] (zrow (zup f 1464 11 p) 1465 g, t) := by
    rw [ze_M_part, zb_M_part_0]
    simp (disch := omega) only [zrow_ne, hf]
    rw [if_pos trivial, zb_M_part_6, x_skip hR p0 p1 hp, zK_v]
  rw [run]
  by_cases c2 : p < n ∧ txK (u p) = 2
  · have hd := txK2.mp c2.2
    obtain ⟨v, f2, rf, a1, a2⟩ := x_figures (q := q) (d := d + 1) (t := t) (p := p) (lo := 0) (hi := 999) hR2 (by rw [zupE rfl rfl]; omega) (by rw [zupE rfl rfl]; omega) (by rw [zupE rfl rfl]; exact hs) (by rw [zup_nk (by decide)]; exact hf)
    refine ⟨v, f2, ?_, ?_⟩
    · rw [zb_M_part_8]
      simp (disch := omega) only [zrow_ne, zup_nk, zupE, h10]
      rw [if_neg (by omega), zb_M_part_13]
      simp (disch := omega) only [zrow_ne, zupE]
      rw [x_letter hR2 (by omega) c2.1, zK_i, zb_M_part_17, r_isInT hd.1 hd.2, zK_i, zb_M_part_20, if_neg (by decide), zb_M_part_21, rf, zK_i, zb_M_part_25]
    · have hv0 : 0 ≤ txV u n p := by
        unfold txV
        split
        · rename_i h2
          have hE : txE u n p = txR u 2 (n - (p + 1)).toNat (p + 1) := by
            unfold txE
            rw [if_neg (by omega), c2.2]
          have hrr := txR_rng (u := u) (kd := 2) (n - (p + 1)).toNat (p + 1)
          rw [← hE] at hrr
          have hj : ∀ j, p ≤ j → j < p + ((txE u n p - p).toNat : Int) → txK (u j) = 2 := fun j j0 j1 => by
            by_cases cj : j = p
            · rw [cj]; exact c2.2
            · exact hrr.2.2.1 j (by omega) (by omega)
          refine (txD_rng (txE u n p - p).toNat p 0 (by omega) hj (Int.le_refl 0) ?_).1
          rcases (by omega : (txE u n p - p).toNat = 1 ∨ (txE u n p - p).toNat = 2 ∨ (txE u n p - p).toNat = 3) with h | h | h <;> rw [h] <;> decide
        · exact Int.le_refl 0
      have hE := txE_rng (u := u) c2.1
      unfold pPart
      by_cases cT : txT u n p = 2
      · rw [if_pos cT]
        by_cases cV : txV u n p ≤ 999
        · obtain ⟨b1, b2⟩ := a1 ⟨cT, hv0, cV⟩
          subst b2
          rw [if_pos cV, zup_zup]
          refine ⟨zFT_11, by rw [zupE rfl rfl]; omega, fun _ => ⟨by rw [zup_nk (by decide)]; exact hf, by rw [zup_nk (by decide)], by rw [zupE rfl rfl]; omega, by rw [zupE rfl rfl]; rfl, fun st => ?_⟩, fun z => absurd rfl z⟩
          rw [b1]
          exact zev_n hv0 st
        · obtain ⟨b1, b2, b3, b4⟩ := a2 (fun z => cV z.2.2)
          rw [if_neg cV]
          exact ⟨fun o k a => (b2 o k (by omega)).trans (zup_nka (by omega)), b3, fun z => absurd z Bool.false_ne_true, fun _ => ⟨b1, by omega, by show 0 ≤ p; omega⟩⟩
      · obtain ⟨b1, b2, b3, b4⟩ := a2 (fun z => cT z.1)
        have hw := txT_rng (u := u) (n := n) (p := p)
        have hno : ¬(0 ≤ zWfc (txT u n p) ∧ zWfc (txT u n p) < 7) := fun z => by
          have h7 := (txF7 hw.1 hw.2).1
          have h8 := h7 z.1 z.2
          exact tx_dig (u := u) (n := n) (p := p) rfl (by omega) c2.2
        rw [if_neg cT, if_neg hno]
        exact ⟨fun o k a => (b2 o k (by omega)).trans (zup_nka (by omega)), b3, fun z => absurd z Bool.false_ne_true, fun _ => ⟨b1, by omega, by show 0 ≤ p; omega⟩⟩
  · have hT2 : txT u n p ≠ 2 := fun h => by
      unfold txT at h
      split at h
      · omega
      · split at h
        · rename_i h1 h2
          exact c2 ⟨by omega, h2.1⟩
        · have := zfst_is (p := fun i => txM u (zWtx i) p (txE u n p)) (no := 1) 33 0 (by omega)
          rw [h] at this
          have e24 : zTx (zWtx 2) = [] := by decide
          have hE := txE_rng (u := u) (n := n) (p := p) (by omega)
          unfold txM at this
          rw [e24, if_neg (by show ¬(0 : Int) = _; omega)] at this
          exact absurd this (by decide)
    have run2 : zD (true, q) (d + 5) zc_M_part (zat zc_M_part 8) [(20, 1464, 0), (2, 0, 0)] [] (zrow (zup f 1464 11 p) 1465 g, t) = zD (true, q) (d + 5) zc_M_part (zat zc_M_part 26) [(20, 1464, 0), (2, 0, 0)] [] (zrow (zup f 1464 11 p) 1465 g, t) := by
      rw [zb_M_part_8]
      simp (disch := omega) only [zrow_ne, zup_nk, zupE, h10]
      by_cases cn : p < n
      · rw [if_neg (by omega), zb_M_part_13]
        simp (disch := omega) only [zrow_ne, zupE]
        have hnd : ¬(48 ≤ u p ∧ u p ≤ 57) := fun z => c2 ⟨cn, txK2.mpr z⟩
        rw [x_letter hR2 (by omega) cn, zK_i, zb_M_part_17, r_isInF (by omega), zK_i, zb_M_part_20, if_pos rfl]
      · rw [if_pos (by omega)]
    rw [run2]
    unfold pPart
    rw [if_neg hT2]
    have hx : ∀ w s, 9 ≤ w ∧ w < 33 → s = zWtx w → zM (true, q) (d + 4) 63 [(20, 1464, 0), (6, s, 0)] (zrow (zup f 1464 11 p) 1465 g, t) = some ((0, if txT u n p = w then 1 else 0, 0), (zrow (zup f 1464 11 (if txT u n p = w then txE u n p else p)) 1465 g, t)) := fun w s hw hs2 => by
      have h := x_has (q := q) (d := d) (t := t) (p := p) (w := w) (s := s) hR2 (by rw [zupE rfl rfl]; omega) (by rw [zupE rfl rfl]; omega) (by rw [zupE rfl rfl]; exact hs) hw hs2
      rw [zup_zup] at h
      exact h
    have good : ∀ k, 0 ≤ k → k < 7 → zWfc (txT u n p) = k → p < n → ∃ v f2, zD (true, q) (d + 5) zc_M_part (zat zc_M_part 79) [(20, 1464, 0), (0, k, 0)] [] (zrow (zup f 1464 11 (txE u n p)) 1465 g, t) = some ((0, v, 0), (zrow f2 1465 g, t)) ∧ XO f f2 u n 0 φ (if 0 ≤ zWfc (txT u n p) ∧ zWfc (txT u n p) < 7 then (true, txN u n p, [-1 - zWfc (txT u n p)]) else pNo p) v := by
      intro k k0 k7 hk hpn
      have hE := txE_rng (u := u) hpn
      refine ⟨φ k, zup f 1464 11 (txE u n p), ?_, ?_⟩
      · rw [zb_M_part_79, zG2 k0 k7, zb_M_part_83]
        show some ((0, zrow (zup f 1464 11 (txE u n p)) 1465 g 1470 k, 0), _) = _
        rw [zrow_ne (by decide), zup_na (by decide), hF.1 k k0 k7]
      · rw [hk, if_pos ⟨k0, k7⟩]
        exact ⟨zFT_11, by rw [zupE rfl rfl]; omega, fun _ => ⟨by rw [zup_nk (by decide)]; exact hf, by rw [zup_nk (by decide)], by rw [zupE rfl rfl]; omega, by rw [zupE rfl rfl]; rfl, fun st => zev_f k0 (by omega) st⟩, fun z => absurd rfl z⟩
    have inn : ∀ w, 9 ≤ w → txT u n p = w → p < n := fun w hw h => (txT_is h (by omega)).1
    by_cases c9 : txT u n p = 9
    · rw [zb_M_part_26, hx 9 8 (by decide) (by decide), zK_i, zb_M_part_29, if_pos c9, if_pos c9, if_neg (by decide), zb_M_part_30, if_pos (by decide)]
      exact good 0 (by decide) (by decide) (by rw [c9]; decide) (inn 9 (by decide) c9)
    rw [zb_M_part_26, hx 9 8 (by decide) (by decide), zK_i, zb_M_part_29, if_neg c9, if_neg c9, if_pos rfl]
    by_cases c29 : txT u n p = 29
    · rw [zb_M_part_32, hx 29 9 (by decide) (by decide), zK_i, zb_M_part_35, if_pos c29, if_pos c29, if_neg (by decide), zb_M_part_36, if_pos (by decide)]
      exact good 1 (by decide) (by decide) (by rw [c29]; decide) (inn 29 (by decide) c29)
    rw [zb_M_part_32, hx 29 9 (by decide) (by decide), zK_i, zb_M_part_35, if_neg c29, if_neg c29, if_pos rfl]
    by_cases c30 : txT u n p = 30
    · rw [zb_M_part_38, hx 30 10 (by decide) (by decide), zK_i, zb_M_part_41, if_pos c30, if_pos c30, if_neg (by decide), zb_M_part_42, if_pos (by decide)]
      exact good 2 (by decide) (by decide) (by rw [c30]; decide) (inn 30 (by decide) c30)
    rw [zb_M_part_38, hx 30 10 (by decide) (by decide), zK_i, zb_M_part_41, if_neg c30, if_neg c30, if_pos rfl]
    by_cases c31 : txT u n p = 31
    · rw [zb_M_part_44, hx 31 11 (by decide) (by decide), zK_i, zb_M_part_47, if_pos c31, if_pos c31, if_neg (by decide), zb_M_part_48, if_pos (by decide)]
      exact good 3 (by decide) (by decide) (by rw [c31]; decide) (inn 31 (by decide) c31)
    rw [zb_M_part_44, hx 31 11 (by decide) (by decide), zK_i, zb_M_part_47, if_neg c31, if_neg c31, if_pos rfl]
    by_cases c32 : txT u n p = 32
    · rw [zb_M_part_50, hx 32 12 (by decide) (by decide), zK_i, zb_M_part_53, if_pos c32, if_pos c32, if_neg (by decide), zb_M_part_54, if_pos (by decide)]
      exact good 4 (by decide) (by decide) (by rw [c32]; decide) (inn 32 (by decide) c32)
    rw [zb_M_part_50, hx 32 12 (by decide) (by decide), zK_i, zb_M_part_53, if_neg c32, if_neg c32, if_pos rfl]
    by_cases c11 : txT u n p = 11
    · rw [zb_M_part_56, hx 11 13 (by decide) (by decide), zK_i, zb_M_part_59, if_pos c11, if_pos c11, if_neg (by decide), zb_M_part_60, if_pos (by decide)]
      exact good 5 (by decide) (by decide) (by rw [c11]; decide) (inn 11 (by decide) c11)
    rw [zb_M_part_56, hx 11 13 (by decide) (by decide), zK_i, zb_M_part_59, if_neg c11, if_neg c11, if_pos rfl]
    by_cases c18 : txT u n p = 18
    · rw [zb_M_part_62, hx 18 14 (by decide) (by decide), zK_i, zb_M_part_65, if_pos c18, if_pos c18, if_neg (by decide), zb_M_part_66, if_pos (by decide)]
      exact good 6 (by decide) (by decide) (by rw [c18]; decide) (inn 18 (by decide) c18)
    rw [zb_M_part_62, hx 18 14 (by decide) (by decide), zK_i, zb_M_part_65, if_neg c18, if_neg c18, if_pos rfl]
    rw [zb_M_part_68, if_neg (by decide), zb_M_part_73]
    simp (disch := omega) only [zrow_ne, zupE]
    rw [x_wrong (by rw [zup_nk (by decide)]; exact hf), zK_v, zb_M_part_77]
    have hw := txT_rng (u := u) (n := n) (p := p)
    have hno : ¬(0 ≤ zWfc (txT u n p) ∧ zWfc (txT u n p) < 7) := fun z => by
      have h7 := (txF7 hw.1 hw.2).1
      have h8 := h7 z.1 z.2
      omega
    rw [if_neg hno]
    refine ⟨0, _, rfl, zFT_trans zFT_11 zFT_12, by rw [zup_nk (by decide), zupE rfl rfl]; omega, fun z => absurd z Bool.false_ne_true, fun _ => ⟨zupE rfl rfl, by rw [zup_nk (by decide), zupE rfl rfl]; omega, by show 0 ≤ p; omega⟩⟩

