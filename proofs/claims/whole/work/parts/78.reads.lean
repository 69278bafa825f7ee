/-! ## the law, read whole -/
def pRd (u : Int → Int) (n : Int) : Nat → Int → List (Int × Int × List Int) → Bool × Int × List (Int × Int × List Int)
  | 0, p, acc => (false, p, acc)
  | k + 1, p, acc => if (pLn u n p).1 = true then (if (pLn u n p).2.1 = n then (true, n, acc ++ [(pLn u n p).2.2]) else if txT u n (pLn u n p).2.1 = 3 then pRd u n k (txN u n (pLn u n p).2.1) (acc ++ [(pLn u n p).2.2]) else (false, (pLn u n p).2.1, acc)) else (false, (pLn u n p).2.1, acc)
def pLaw (u : Int → Int) (n : Int) : Bool × Int × List (Int × Int × List Int) := if txS u n 0 < n then pRd u n 12 (txS u n 0) [] else (true, n, [])
def zF18 (φ : Int → Int) : List (Int × Int × List Int) → Int → Int
  | [], x => x
  | l :: ls, x => zF18 φ ls (zA18 φ l x)
def zF19 (φ : Int → Int) : List (Int × Int × List Int) → Int → Int
  | [], x => x
  | l :: ls, x => zF19 φ ls (zA19 φ l x)
theorem zF18_snoc {φ : Int → Int} {l : Int × Int × List Int} : ∀ (a : List (Int × Int × List Int)) (x : Int), zF18 φ (a ++ [l]) x = zA18 φ l (zF18 φ a x) := by
  intro a
  induction a with
  | nil => intro x; rfl
  | cons b a ih => intro x; exact ih (zA18 φ b x)
theorem zF19_snoc {φ : Int → Int} {l : Int × Int × List Int} : ∀ (a : List (Int × Int × List Int)) (x : Int), zF19 φ (a ++ [l]) x = zA19 φ l (zF19 φ a x) := by
  intro a
  induction a with
  | nil => intro x; rfl
  | cons b a ih => intro x; exact ih (zA19 φ b x)
theorem x_skipAny {q : Int × (Int → Int)} {d : Nat} {f : Int → Int → Int} {t : (Int → Int) × Nat × Nat × Nat × (Int → Int → Bool)} {g u : Int → Int} {n : Int} (hR : RT f g u n) (p0 : 0 ≤ f 1464 11) : ∃ p, zM (true, q) (d + 1) 61 [(20, 1464, 0)] (zrow f 1465 g, t) = some ((9, 0, 0), (zrow (zup f 1464 11 p) 1465 g, t)) := by
  by_cases c : f 1464 11 ≤ n
  · exact ⟨_, x_skip hR p0 c rfl⟩
  · refine ⟨f 1464 11, ?_⟩
    have h10 := hR.2.2.1
    rw [ze_M_skip, zb_M_skip_0]
    simp (disch := omega) only [zrow_ne, h10]
    rw [if_pos (by omega), zb_M_skip_18, zup_self]
/-- after a fault the reading ends -/
theorem xl_end {q : Int × (Int → Int)} {d : Nat} {f : Int → Int → Int} {t : (Int → Int) × Nat × Nat × Nat × (Int → Int → Bool)} {g u : Int → Int} {n x1 x2 c : Int} (hR : RT f g u n) (hf : f 1464 12 ≠ -1) : (zD (true, q) (d + 30) zc_M_reads (zat zc_M_reads 43) [(20, 1464, 0), (0, x1, 0), (0, x2, 0), (0, c, 0)] [] (zrow f 1465 g, t) = some ((0, c, 0), (zrow f 1465 g, t))) ∧ (zD (true, q) (d + 30) zc_M_reads (zat zc_M_reads 13) [(20, 1464, 0), (0, x1, 0), (0, 1, 0), (0, c, 0)] [] (zrow f 1465 g, t) = some ((0, c, 0), (zrow f 1465 g, t))) := by
  refine ⟨?_, ?_⟩
  · rw [zb_M_reads_43]
    simp (disch := omega) only [zrow_ne]
    rw [if_pos hf, zb_M_reads_52, zb_M_reads_13, if_pos rfl, zb_M_reads_71]
  · rw [zb_M_reads_13, if_neg (by decide), zb_M_reads_15]
    simp (disch := omega) only [zrow_ne]
    rw [if_pos hf, zb_M_reads_71]
theorem xl_reads {q : Int × (Int → Int)} {d : Nat} {t : (Int → Int) × Nat × Nat × Nat × (Int → Int → Bool)} {g u φ : Int → Int} {n : Int} {x8 x9 : Int} : ∀ (k : Nat) (p : Int) (acc : List (Int × Int × List Int)) (f : Int → Int → Int), (k : Int) + acc.length = 12 → XI f g u n φ 0 p → f 1464 18 = zF18 φ acc x8 → f 1464 19 = zF19 φ acc x9 → ∃ f2 c, zD (true, q) (d + 30) zc_M_reads (zat zc_M_reads 13) [(20, 1464, 0), (0, 1, 0), (0, 1, 0), (0, acc.length, 0)] [] (zrow f 1465 g, t) = some ((0, c, 0), (zrow f2 1465 g, t)) ∧ zFU f f2 ∧ ((pRd u n k p acc).1 = true → f2 1464 12 = -1 ∧ c = (pRd u n k p acc).2.2.length ∧ f2 1464 18 = zF18 φ (pRd u n k p acc).2.2 x8 ∧ f2 1464 19 = zF19 φ (pRd u n k p acc).2.2 x9) ∧ ((pRd u n k p acc).1 ≠ true → f2 1464 12 = (pRd u n k p acc).2.1 ∧ 0 ≤ (pRd u n k p acc).2.1) := by
  intro k
  induction k with
  | zero =>
    intro p acc f hk h h18 h19
    have hp := XI_p h
    have hs := x_skip (q := q) (d := d + 28) (t := t) h.1 h.2.2.2.1 h.2.2.2.2.1 h.2.2.2.2.2.1
    have h1 : XI (zup f 1464 11 p) g u n φ 0 p := by
      have := XI_11 h hp.1 hp.2.1
      rw [hp.2.2.2] at this
      exact this
    have hR2 : RT (zup (zup f 1464 11 p) 1464 12 p) g u n := RT_ft zFT_12 h1.1
    obtain ⟨p9, h9⟩ := x_skipAny (q := q) (d := d + 28) (t := t) hR2 (by rw [zup_nk (by decide), zupE rfl rfl]; exact hp.1)
    have e12 : zup (zup (zup f 1464 11 p) 1464 12 p) 1464 11 p9 1464 12 = p := by rw [zup_nk (by decide), zupE rfl rfl]
    refine ⟨_, zw ((acc.length : Int) + 1), ?_, zFU_trans (zFU_up (by omega)) (zFU_trans (zFU_up (by omega)) (zFU_up (by omega))), fun z => absurd z Bool.false_ne_true, fun _ => ⟨e12, hp.1⟩⟩
    rw [zb_M_reads_13, if_neg (by decide), zb_M_reads_15]
    simp (disch := omega) only [zrow_ne]
    rw [if_neg (fun z => z h.2.2.1), zb_M_reads_19, hs, zK_v, zb_M_reads_21, if_neg (by decide), zb_M_reads_24, if_neg (by omega), zb_M_reads_28]
    simp (disch := omega) only [zrow_ne, zupE]
    rw [x_wrong h1.2.2.1, zK_v, zb_M_reads_32, h9, zK_v]
    exact (xl_end (d := d) (RT_ft zFT_11 hR2) (by rw [e12]; omega)).1
  | succ k ih =>
    intro p acc f hk h h18 h19
    have hp := XI_p h
    have hs := x_skip (q := q) (d := d + 28) (t := t) h.1 h.2.2.2.1 h.2.2.2.2.1 h.2.2.2.2.2.1
    have h1 : XI (zup f 1464 11 p) g u n φ 0 p := by
      have := XI_11 h hp.1 hp.2.1
      rw [hp.2.2.2] at this
      exact this
    obtain ⟨f2, r2, x2⟩ := x_lawLine (q := q) (d := d) (t := t) rfl h1
    have x2' : XL f f2 u n φ (pLn u n p) := XL_pre zFT_11 (zup_nk (by decide)) x2
    have run : zD (true, q) (d + 30) zc_M_reads (zat zc_M_reads 13) [(20, 1464, 0), (0, 1, 0), (0, 1, 0), (0, acc.length, 0)] [] (zrow f 1465 g, t) = zD (true, q) (d + 30) zc_M_reads (zat zc_M_reads 37) [(20, 1464, 0), (0, 1, 0), (0, 1, 0), (0, acc.length, 0)] [] (zrow f2 1465 g, t) := by
      rw [zb_M_reads_13, if_neg (by decide), zb_M_reads_15]
      simp (disch := omega) only [zrow_ne]
      rw [if_neg (fun z => z h.2.2.1), zb_M_reads_19, hs, zK_v, zb_M_reads_21, if_neg (by decide), zb_M_reads_24, if_pos (by omega), zb_M_reads_33, if_neg (by decide), zb_M_reads_35, r2, zK_v]
    rw [run, zb_M_reads_37]
    show ∃ f2 c, _ ∧ _ ∧ ((if (pLn u n p).1 = true then (if (pLn u n p).2.1 = n then (true, n, acc ++ [(pLn u n p).2.2]) else if txT u n (pLn u n p).2.1 = 3 then pRd u n k (txN u n (pLn u n p).2.1) (acc ++ [(pLn u n p).2.2]) else (false, (pLn u n p).2.1, acc)) else (false, (pLn u n p).2.1, acc)).1 = true → _) ∧ _
    have hun : pRd u n (k + 1) p acc = (if (pLn u n p).1 = true then (if (pLn u n p).2.1 = n then (true, n, acc ++ [(pLn u n p).2.2]) else if txT u n (pLn u n p).2.1 = 3 then pRd u n k (txN u n (pLn u n p).2.1) (acc ++ [(pLn u n p).2.2]) else (false, (pLn u n p).2.1, acc)) else (false, (pLn u n p).2.1, acc)) := rfl
    rw [hun]
    have hc1 : zw ((acc.length : Int) + 1) = ((acc ++ [(pLn u n p).2.2]).length : Int) := by
      rw [zw_id (by omega) (by omega), List.length_append]
      simp
    by_cases hx : (pLn u n p).1 = true
    · rw [if_pos hx]
      obtain ⟨m1, m2, m3, m4, m5, m6⟩ := x2'.2.2.1 hx
      have i2 : XI f2 g u n φ 0 (pLn u n p).2.1 := XI_fu x2'.1 h m1 ⟨x2'.2.1, m3⟩ m4 m2
      have hp2 := XI_p i2
      have e18 : f2 1464 18 = zF18 φ (acc ++ [(pLn u n p).2.2]) x8 := by rw [m5, h18, zF18_snoc]
      have e19 : f2 1464 19 = zF19 φ (acc ++ [(pLn u n p).2.2]) x9 := by rw [m6, h19, zF19_snoc]
      have hs2 := x_skip (q := q) (d := d + 28) (t := t) i2.1 i2.2.2.2.1 i2.2.2.2.2.1 i2.2.2.2.2.2.1
      rw [hs2, zK_v, hc1]
      have i3 : XI (zup f2 1464 11 (pLn u n p).2.1) g u n φ 0 (pLn u n p).2.1 := by
        have := XI_11 i2 hp2.1 hp2.2.1
        rw [hp2.2.2.2] at this
        exact this
      have h10 := i3.1.2.2.1
      have zf : zFU f (zup f2 1464 11 (pLn u n p).2.1) := zFU_trans x2'.1 (zFU_up (by omega))
      generalize (pLn u n p).2.1 = p1 at *
      generalize acc ++ [(pLn u n p).2.2] = acc2 at *
      have hk2 : (k : Int) + acc2.length = 12 := by
        rw [← hc1, zw_id (by omega) (by omega)]
        omega
      rw [zb_M_reads_43]
      simp (disch := omega) only [zrow_ne]
      rw [if_neg (fun z => z i3.2.2.1), zb_M_reads_47]
      simp (disch := omega) only [zrow_ne, zupE, h10]
      by_cases cn : p1 = n
      · rw [if_neg (fun z => z cn), if_pos cn, zb_M_reads_52, zb_M_reads_13, if_pos rfl, zb_M_reads_71]
        exact ⟨_, _, rfl, zf, fun _ => ⟨i3.2.2.1, rfl, (zup_nk (by decide)).trans e18, (zup_nk (by decide)).trans e19⟩, fun z => absurd rfl z⟩
      · rw [if_pos cn, if_neg cn, zb_M_reads_55]
        obtain ⟨r5, i5, j5⟩ := x_signI (q := q) (d := d + 27) (t := t) (w := 3) (c := 59) i3 (by decide) (by decide) (by decide)
        rw [zup_zup] at r5 i5
        rw [r5, zK_i, zb_M_reads_58]
        by_cases c3 : txT u n p1 = 3
        · obtain ⟨j6, hpn⟩ := j5 c3
          rw [zup_zup] at j6
          rw [if_pos c3, if_neg (by decide), if_pos c3, zb_M_reads_59]
          simp (disch := omega) only [zrow_ne, zrow_up, zupE, zup_zup]
          rw [zw_id (by omega) (by omega)]
          obtain ⟨f9, c9, r9, z9, a9, b9⟩ := ih (txN u n p1) acc2 _ hk2 j6 ((zup_nk (by decide)).trans e18) ((zup_nk (by decide)).trans e19)
          exact ⟨f9, c9, r9, zFU_trans x2'.1 (zFU_trans (zFU_up (by omega)) z9), a9, b9⟩
        · rw [if_neg c3, if_pos rfl, if_neg c3, zb_M_reads_66]
          simp (disch := omega) only [zrow_ne, zupE]
          rw [x_wrong i3.2.2.1, zK_v, zb_M_reads_70]
          have e12 : zup (zup f2 1464 11 p1) 1464 12 p1 1464 12 = p1 := zupE rfl rfl
          refine ⟨_, acc2.length, (xl_end (d := d) (x2 := 1) (RT_ft zFT_12 i3.1) (by rw [e12]; omega)).2, zFU_trans zf (zFU_up (by omega)), fun z => absurd z Bool.false_ne_true, fun _ => ⟨e12, hp2.1⟩⟩
    · rw [if_neg hx]
      obtain ⟨m1, m2, m3⟩ := x2'.2.2.2 hx
      have hR2 : RT f2 g u n := by
        obtain ⟨a1, a2, a3, a4⟩ := h.1
        refine ⟨a1, a2, (x2'.1 _ _ (by omega)).trans a3, ?_⟩
        rcases a4 with ⟨h3, h4⟩ | ⟨h3, h4⟩
        · exact Or.inl ⟨(x2'.1 _ _ (by omega)).trans h3, fun k k0 k1 => (x2'.1 _ _ (by omega)).trans (h4 k k0 k1)⟩
        · exact Or.inr ⟨(x2'.1 _ _ (by omega)).trans h3, h4⟩
      obtain ⟨p9, h9⟩ := x_skipAny (q := q) (d := d + 28) (t := t) hR2 x2'.2.1
      rw [h9, zK_v]
      refine ⟨zup f2 1464 11 p9, _, (xl_end (d := d) (RT_ft zFT_11 hR2) (by rw [zup_nk (by decide)]; omega)).1, zFU_trans x2'.1 (zFU_up (by omega)), fun z => absurd z Bool.false_ne_true, fun _ => ⟨by rw [zup_nk (by decide)]; exact m1, m3⟩⟩
theorem x_reads {q : Int × (Int → Int)} {d : Nat} {t : (Int → Int) × Nat × Nat × Nat × (Int → Int → Bool)} {g u φ : Int → Int} {n : Int} {f : Int → Int → Int} (h : XI f g u n φ 0 (txS u n 0)) (h0 : f 1464 11 = 0) : ∃ f2 c, zM (true, q) (d + 30) 84 [(20, 1464, 0), (0, 1, 0)] (zrow f 1465 g, t) = some ((0, c, 0), (zrow f2 1465 g, t)) ∧ zFU f f2 ∧ ((pLaw u n).1 = true → f2 1464 12 = -1 ∧ c = (pLaw u n).2.2.length ∧ f2 1464 18 = zF18 φ (pLaw u n).2.2 (f 1464 18) ∧ f2 1464 19 = zF19 φ (pLaw u n).2.2 (f 1464 19)) ∧ ((pLaw u n).1 ≠ true → f2 1464 12 = (pLaw u n).2.1 ∧ 0 ≤ (pLaw u n).2.1) := by
  have hp := XI_p h
  have hs := x_skip (q := q) (d := d + 28) (t := t) h.1 h.2.2.2.1 h.2.2.2.2.1 h.2.2.2.2.2.1
  have h1 : XI (zup f 1464 11 (txS u n 0)) g u n φ 0 (txS u n 0) := by
    have := XI_11 h hp.1 hp.2.1
    rw [hp.2.2.2] at this
    exact this
  have h10 := h1.1.2.2.1
  rw [ze_M_reads, zb_M_reads_0, hs, zK_v, zb_M_reads_2]
  simp (disch := omega) only [zrow_ne, zupE, h10]
  unfold pLaw
  by_cases c : txS u n 0 < n
  · rw [if_neg (by omega), if_pos c, zb_M_reads_7]
    obtain ⟨f9, c9, r9, z9, a9, b9⟩ := xl_reads (q := q) (d := d) (t := t) (x8 := f 1464 18) (x9 := f 1464 19) 12 (txS u n 0) [] _ rfl h1 (zup_nk (by decide)) (zup_nk (by decide))
    exact ⟨f9, c9, r9, zFU_trans (zFU_up (by omega)) z9, a9, b9⟩
  · rw [if_pos (by omega), if_neg c, zb_M_reads_9, zb_M_reads_13, if_pos rfl, zb_M_reads_71]
    exact ⟨_, 0, rfl, zFU_up (by omega), fun _ => ⟨h1.2.2.1, rfl, zup_nk (by decide), zup_nk (by decide)⟩, fun z => absurd rfl z⟩
