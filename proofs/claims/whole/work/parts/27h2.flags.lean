/-! ## which references are set, by lists -/
def zflgL (L : List (Int × Int)) (a : Nat) : Bool := match Nat.blt (zST a) 30 with
  | true => (List.range (zNF (zST a - 10))).all (fun k => match zfd (zST a - 10) k a (zYT a) with
    | none => true
    | some _ => L.any (fun e => decide (e.1 = a) && decide (e.2 = k)))
  | false => match Nat.beq (zST a) 32 || Nat.beq (zST a) 33 with
    | true => (List.range (zYT a).toNat).all (fun i => L.any (fun e => decide (e.1 = a) && decide (e.2 = i)))
    | false => true
theorem zflgL_sub {L M : List (Int × Int)} {a : Nat} (h : ∀ e, e ∈ L → e ∈ M) (hL : zflgL L a = true) : zflgL M a = true := by
  have mono : ∀ k : Int, L.any (fun e => decide (e.1 = (a : Int)) && decide (e.2 = k)) = true → M.any (fun e => decide (e.1 = (a : Int)) && decide (e.2 = k)) = true := by
    intro k hk
    obtain ⟨e, he, h1⟩ := List.any_eq_true.mp hk
    exact List.any_eq_true.mpr ⟨e, h e he, h1⟩
  unfold zflgL at hL ⊢
  cases hb : Nat.blt (zST a) 30 with
  | true =>
    rw [hb] at hL
    apply List.all_eq_true.mpr
    intro k hk
    have h2 := List.all_eq_true.mp hL k hk
    cases hv : zfd (zST a - 10) k a (zYT a) with
    | none => rfl
    | some v =>
      rw [hv] at h2
      exact mono _ h2
  | false =>
    rw [hb] at hL
    cases hc : (Nat.beq (zST a) 32 || Nat.beq (zST a) 33) with
    | true =>
      rw [hc] at hL
      apply List.all_eq_true.mpr
      intro k hk
      exact mono _ (List.all_eq_true.mp hL k hk)
    | false => rfl
def zGf (lo : Nat) : List (Int × Int) := zGI.filter (fun e => Nat.ble lo e.1.toNat && Nat.blt e.1.toNat (lo + 50))
theorem zGf_all {lo n : Nat} (h : (List.range n).all (fun i => zflgL (zGf lo) (lo + i)) = true) : (List.range n).all (fun i => zflgL zGI (lo + i)) = true := by
  apply List.all_eq_true.mpr
  intro i hi
  exact zflgL_sub (fun e he => (List.mem_filter.mp he).1) (List.all_eq_true.mp h i hi)
theorem zGg_0 : (List.range 50).all (fun i => zflgL zGI (0 + i)) = true := zGf_all (by decide +kernel)
theorem zGg_50 : (List.range 50).all (fun i => zflgL zGI (50 + i)) = true := zGf_all (by decide +kernel)
theorem zGg_100 : (List.range 50).all (fun i => zflgL zGI (100 + i)) = true := zGf_all (by decide +kernel)
theorem zGg_150 : (List.range 50).all (fun i => zflgL zGI (150 + i)) = true := zGf_all (by decide +kernel)
theorem zGg_200 : (List.range 50).all (fun i => zflgL zGI (200 + i)) = true := zGf_all (by decide +kernel)
theorem zGg_250 : (List.range 50).all (fun i => zflgL zGI (250 + i)) = true := zGf_all (by decide +kernel)
theorem zGg_300 : (List.range 50).all (fun i => zflgL zGI (300 + i)) = true := zGf_all (by decide +kernel)
theorem zGg_350 : (List.range 50).all (fun i => zflgL zGI (350 + i)) = true := zGf_all (by decide +kernel)
theorem zGg_400 : (List.range 50).all (fun i => zflgL zGI (400 + i)) = true := zGf_all (by decide +kernel)
theorem zGg_450 : (List.range 50).all (fun i => zflgL zGI (450 + i)) = true := zGf_all (by decide +kernel)
theorem zGg_500 : (List.range 50).all (fun i => zflgL zGI (500 + i)) = true := zGf_all (by decide +kernel)
theorem zGg_550 : (List.range 50).all (fun i => zflgL zGI (550 + i)) = true := zGf_all (by decide +kernel)
theorem zGg_600 : (List.range 50).all (fun i => zflgL zGI (600 + i)) = true := zGf_all (by decide +kernel)
theorem zGg_650 : (List.range 50).all (fun i => zflgL zGI (650 + i)) = true := zGf_all (by decide +kernel)
theorem zGg_700 : (List.range 50).all (fun i => zflgL zGI (700 + i)) = true := zGf_all (by decide +kernel)
theorem zGg_750 : (List.range 50).all (fun i => zflgL zGI (750 + i)) = true := zGf_all (by decide +kernel)
theorem zGg_800 : (List.range 50).all (fun i => zflgL zGI (800 + i)) = true := zGf_all (by decide +kernel)
theorem zGg_850 : (List.range 50).all (fun i => zflgL zGI (850 + i)) = true := zGf_all (by decide +kernel)
theorem zGg_900 : (List.range 50).all (fun i => zflgL zGI (900 + i)) = true := zGf_all (by decide +kernel)
theorem zGg_950 : (List.range 50).all (fun i => zflgL zGI (950 + i)) = true := zGf_all (by decide +kernel)
theorem zGg_1000 : (List.range 50).all (fun i => zflgL zGI (1000 + i)) = true := zGf_all (by decide +kernel)
theorem zGg_1050 : (List.range 50).all (fun i => zflgL zGI (1050 + i)) = true := zGf_all (by decide +kernel)
theorem zGg_1100 : (List.range 50).all (fun i => zflgL zGI (1100 + i)) = true := zGf_all (by decide +kernel)
theorem zGg_1150 : (List.range 50).all (fun i => zflgL zGI (1150 + i)) = true := zGf_all (by decide +kernel)
theorem zGg_1200 : (List.range 50).all (fun i => zflgL zGI (1200 + i)) = true := zGf_all (by decide +kernel)
theorem zGg_1250 : (List.range 50).all (fun i => zflgL zGI (1250 + i)) = true := zGf_all (by decide +kernel)
theorem zGg_1300 : (List.range 50).all (fun i => zflgL zGI (1300 + i)) = true := zGf_all (by decide +kernel)
theorem zGg_1350 : (List.range 50).all (fun i => zflgL zGI (1350 + i)) = true := zGf_all (by decide +kernel)
theorem zGg_1400 : (List.range 50).all (fun i => zflgL zGI (1400 + i)) = true := zGf_all (by decide +kernel)
theorem zGg_1450 : (List.range 29).all (fun i => zflgL zGI (1450 + i)) = true := zGf_all (by decide +kernel)
theorem zflgL_0 : (List.range 300).all (fun i => zflgL zGI (0 + i)) = true := by
  apply List.all_eq_true.mpr
  intro i hi
  have hi := List.mem_range.mp hi
  by_cases c0 : i < 50
  · have := List.all_eq_true.mp zGg_0 (i - 0) (List.mem_range.mpr (by omega)); rwa [show 0 + (i - 0) = 0 + i by omega] at this
  by_cases c1 : i < 100
  · have := List.all_eq_true.mp zGg_50 (i - 50) (List.mem_range.mpr (by omega)); rwa [show 50 + (i - 50) = 0 + i by omega] at this
  by_cases c2 : i < 150
  · have := List.all_eq_true.mp zGg_100 (i - 100) (List.mem_range.mpr (by omega)); rwa [show 100 + (i - 100) = 0 + i by omega] at this
  by_cases c3 : i < 200
  · have := List.all_eq_true.mp zGg_150 (i - 150) (List.mem_range.mpr (by omega)); rwa [show 150 + (i - 150) = 0 + i by omega] at this
  by_cases c4 : i < 250
  · have := List.all_eq_true.mp zGg_200 (i - 200) (List.mem_range.mpr (by omega)); rwa [show 200 + (i - 200) = 0 + i by omega] at this
  have := List.all_eq_true.mp zGg_250 (i - 250) (List.mem_range.mpr (by omega)); rwa [show 250 + (i - 250) = 0 + i by omega] at this
theorem zflgL_3 : (List.range 300).all (fun i => zflgL zGI (300 + i)) = true := by
  apply List.all_eq_true.mpr
  intro i hi
  have hi := List.mem_range.mp hi
  by_cases c0 : i < 50
  · have := List.all_eq_true.mp zGg_300 (i - 0) (List.mem_range.mpr (by omega)); rwa [show 300 + (i - 0) = 300 + i by omega] at this
  by_cases c1 : i < 100
  · have := List.all_eq_true.mp zGg_350 (i - 50) (List.mem_range.mpr (by omega)); rwa [show 350 + (i - 50) = 300 + i by omega] at this
  by_cases c2 : i < 150
  · have := List.all_eq_true.mp zGg_400 (i - 100) (List.mem_range.mpr (by omega)); rwa [show 400 + (i - 100) = 300 + i by omega] at this
  by_cases c3 : i < 200
  · have := List.all_eq_true.mp zGg_450 (i - 150) (List.mem_range.mpr (by omega)); rwa [show 450 + (i - 150) = 300 + i by omega] at this
  by_cases c4 : i < 250
  · have := List.all_eq_true.mp zGg_500 (i - 200) (List.mem_range.mpr (by omega)); rwa [show 500 + (i - 200) = 300 + i by omega] at this
  have := List.all_eq_true.mp zGg_550 (i - 250) (List.mem_range.mpr (by omega)); rwa [show 550 + (i - 250) = 300 + i by omega] at this
theorem zflgL_6 : (List.range 300).all (fun i => zflgL zGI (600 + i)) = true := by
  apply List.all_eq_true.mpr
  intro i hi
  have hi := List.mem_range.mp hi
  by_cases c0 : i < 50
  · have := List.all_eq_true.mp zGg_600 (i - 0) (List.mem_range.mpr (by omega)); rwa [show 600 + (i - 0) = 600 + i by omega] at this
  by_cases c1 : i < 100
  · have := List.all_eq_true.mp zGg_650 (i - 50) (List.mem_range.mpr (by omega)); rwa [show 650 + (i - 50) = 600 + i by omega] at this
  by_cases c2 : i < 150
  · have := List.all_eq_true.mp zGg_700 (i - 100) (List.mem_range.mpr (by omega)); rwa [show 700 + (i - 100) = 600 + i by omega] at this
  by_cases c3 : i < 200
  · have := List.all_eq_true.mp zGg_750 (i - 150) (List.mem_range.mpr (by omega)); rwa [show 750 + (i - 150) = 600 + i by omega] at this
  by_cases c4 : i < 250
  · have := List.all_eq_true.mp zGg_800 (i - 200) (List.mem_range.mpr (by omega)); rwa [show 800 + (i - 200) = 600 + i by omega] at this
  have := List.all_eq_true.mp zGg_850 (i - 250) (List.mem_range.mpr (by omega)); rwa [show 850 + (i - 250) = 600 + i by omega] at this
theorem zflgL_9 : (List.range 300).all (fun i => zflgL zGI (900 + i)) = true := by
  apply List.all_eq_true.mpr
  intro i hi
  have hi := List.mem_range.mp hi
  by_cases c0 : i < 50
  · have := List.all_eq_true.mp zGg_900 (i - 0) (List.mem_range.mpr (by omega)); rwa [show 900 + (i - 0) = 900 + i by omega] at this
  by_cases c1 : i < 100
  · have := List.all_eq_true.mp zGg_950 (i - 50) (List.mem_range.mpr (by omega)); rwa [show 950 + (i - 50) = 900 + i by omega] at this
  by_cases c2 : i < 150
  · have := List.all_eq_true.mp zGg_1000 (i - 100) (List.mem_range.mpr (by omega)); rwa [show 1000 + (i - 100) = 900 + i by omega] at this
  by_cases c3 : i < 200
  · have := List.all_eq_true.mp zGg_1050 (i - 150) (List.mem_range.mpr (by omega)); rwa [show 1050 + (i - 150) = 900 + i by omega] at this
  by_cases c4 : i < 250
  · have := List.all_eq_true.mp zGg_1100 (i - 200) (List.mem_range.mpr (by omega)); rwa [show 1100 + (i - 200) = 900 + i by omega] at this
  have := List.all_eq_true.mp zGg_1150 (i - 250) (List.mem_range.mpr (by omega)); rwa [show 1150 + (i - 250) = 900 + i by omega] at this
theorem zflgL_12 : (List.range 279).all (fun i => zflgL zGI (1200 + i)) = true := by
  apply List.all_eq_true.mpr
  intro i hi
  have hi := List.mem_range.mp hi
  by_cases c0 : i < 50
  · have := List.all_eq_true.mp zGg_1200 (i - 0) (List.mem_range.mpr (by omega)); rwa [show 1200 + (i - 0) = 1200 + i by omega] at this
  by_cases c1 : i < 100
  · have := List.all_eq_true.mp zGg_1250 (i - 50) (List.mem_range.mpr (by omega)); rwa [show 1250 + (i - 50) = 1200 + i by omega] at this
  by_cases c2 : i < 150
  · have := List.all_eq_true.mp zGg_1300 (i - 100) (List.mem_range.mpr (by omega)); rwa [show 1300 + (i - 100) = 1200 + i by omega] at this
  by_cases c3 : i < 200
  · have := List.all_eq_true.mp zGg_1350 (i - 150) (List.mem_range.mpr (by omega)); rwa [show 1350 + (i - 150) = 1200 + i by omega] at this
  by_cases c4 : i < 250
  · have := List.all_eq_true.mp zGg_1400 (i - 200) (List.mem_range.mpr (by omega)); rwa [show 1400 + (i - 200) = 1200 + i by omega] at this
  have := List.all_eq_true.mp zGg_1450 (i - 250) (List.mem_range.mpr (by omega)); rwa [show 1450 + (i - 250) = 1200 + i by omega] at this
