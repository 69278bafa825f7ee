/-! ## words for runs -/
theorem zG1 {α : Type} {x : Int} {a : Option α} (h : x ≠ 0) : zG [x] a = a := if_pos h
theorem zG2 {α : Type} {x n : Int} {a : Option α} (h0 : 0 ≤ x) (h1 : x < n) : zG [x, n] a = a := if_pos ⟨h0, h1⟩
theorem zG4 {α : Type} {v n i k : Int} {a : Option α} (h0 : 0 ≤ v) (h1 : v < n) (h2 : 0 ≤ i) (h3 : i < k) : zG [v, n, i, k] a = a := if_pos ⟨h0, h1, h2, h3⟩
theorem zG5 {α : Type} {s d n k l : Int} {a : Option α} (h0 : 0 ≤ s) (h1 : 0 ≤ d) (h2 : 0 ≤ n) (h3 : s + n ≤ k) (h4 : d + n ≤ l) : zG [s, d, n, k, l] a = a := if_pos ⟨h0, h1, h2, h3, h4⟩
theorem zupE {f : Int → Int → Int} {a k v b j : Int} (h1 : b = a) (h2 : j = k) : zup f a k v b j = v := if_pos ⟨h1, h2⟩
theorem zup_na {f : Int → Int → Int} {a k v b j : Int} (h : b ≠ a) : zup f a k v b j = f b j := if_neg (fun z => h z.1)
theorem zup_nk {f : Int → Int → Int} {a k v b j : Int} (h : j ≠ k) : zup f a k v b j = f b j := if_neg (fun z => h z.2)
theorem zup_row {f : Int → Int → Int} {a k v b : Int} (h : b ≠ a) : zup f a k v b = f b := by
  funext j
  exact zup_na h
theorem zcpy_in {f : Int → Int → Int} {a s b d n x j : Int} (h1 : x = b) (h2 : d ≤ j) (h3 : j < d + n) : zcpy f a s b d n x j = f a (s + (j - d)) := if_pos ⟨h1, h2, h3⟩
theorem zcpy_na {f : Int → Int → Int} {a s b d n x j : Int} (h : x ≠ b) : zcpy f a s b d n x j = f x j := if_neg (fun z => h z.1)
theorem zcpy_nk {f : Int → Int → Int} {a s b d n x j : Int} (h : j < d ∨ d + n ≤ j) : zcpy f a s b d n x j = f x j := if_neg (fun z => by omega)
theorem zcpy_row {f : Int → Int → Int} {a s b d n x : Int} (h : x ≠ b) : zcpy f a s b d n x = f x := by
  funext j
  exact zcpy_na h
/-- a row of which some places are told anew -/
def zfil (f : Int → Int → Int) (a : Int) (g : Int → Int → Int) : Int → Int → Int := fun b j => if b = a then g a j else f b j
def zb01 (p : Prop) (h : Decidable p) : Int := @ite _ p h 1 0
/-- sums and searches over a row's places -/
def zsum (g : Int → Int) : Nat → Int → Int
  | 0, _ => 0
  | n + 1, i => g i + zsum g n (i + 1)
theorem zsum_congr {g h : Int → Int} : ∀ (n : Nat) (i : Int), (∀ k, i ≤ k → k < i + n → g k = h k) → zsum g n i = zsum h n i := by
  intro n
  induction n with
  | zero => intro i _; rfl
  | succ n ih =>
    intro i hk
    show g i + zsum g n (i + 1) = h i + zsum h n (i + 1)
    rw [hk i (by omega) (by omega), ih (i + 1) (fun k h1 h2 => hk k (by omega) (by omega))]
theorem zsum_rng {g : Int → Int} {lo hi : Int} : ∀ (n : Nat) (i : Int), (∀ k, i ≤ k → k < i + n → lo ≤ g k ∧ g k ≤ hi) → lo * n ≤ zsum g n i ∧ zsum g n i ≤ hi * n := by
  intro n
  induction n with
  | zero => intro i _; simp [zsum]
  | succ n ih =>
    intro i hk
    have h1 := hk i (by omega) (by omega)
    have h2 := ih (i + 1) (fun k h1 h2 => hk k (by omega) (by omega))
    have e1 : lo * ((n + 1 : Nat) : Int) = lo * n + lo := by rw [Int.natCast_succ, Int.mul_add, Int.mul_one]
    have e2 : hi * ((n + 1 : Nat) : Int) = hi * n + hi := by rw [Int.natCast_succ, Int.mul_add, Int.mul_one]
    show lo * ((n + 1 : Nat) : Int) ≤ g i + zsum g n (i + 1) ∧ g i + zsum g n (i + 1) ≤ hi * ((n + 1 : Nat) : Int)
    rw [e1, e2]
    omega
theorem zsum_snoc {g : Int → Int} : ∀ (n : Nat) (i : Int), zsum g (n + 1) i = zsum g n i + g (i + n) := by
  intro n
  induction n with
  | zero => intro i; simp [zsum]
  | succ n ih =>
    intro i
    show g i + zsum g (n + 1) (i + 1) = g i + zsum g n (i + 1) + g (i + ((n + 1 : Nat) : Int))
    rw [ih (i + 1), show i + 1 + (n : Int) = i + ((n + 1 : Nat) : Int) by omega, Int.add_assoc]
/-- the first place from i on, of n, where p holds; else what is said -/
def zfst (p : Int → Bool) (no : Int) : Nat → Int → Int
  | 0, _ => no
  | n + 1, i => match p i with
    | true => i
    | false => zfst p no n (i + 1)
theorem zfst_congr {p r : Int → Bool} {no : Int} : ∀ (n : Nat) (i : Int), (∀ k, i ≤ k → k < i + n → p k = r k) → zfst p no n i = zfst r no n i := by
  intro n
  induction n with
  | zero => intro i _; rfl
  | succ n ih =>
    intro i hk
    show (match p i with | true => i | false => zfst p no n (i + 1)) = (match r i with | true => i | false => zfst r no n (i + 1))
    rw [hk i (by omega) (by omega), ih (i + 1) (fun k h1 h2 => hk k (by omega) (by omega))]
