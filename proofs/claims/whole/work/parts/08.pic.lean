/-! ## the heap's picture -/
def zfv (K : zCx) (ph : Bool) (ad : Nat → Nat) (σ : zS) (a k : Nat) : Value := match zfd (zST a - 10) k (a : Int) (zYT a) with
  | none => .int (Int32.ofInt (σ.1 a k))
  | some v => if (ph || σ.2.2.2.2.2 a k) = true then .ref (ad v.2.1.toNat) else .null
def zrw (K : zCx) (ph : Bool) (ad : Nat → Nat) (σ : zS) (a : Nat) : Nat → Option Nat := fun i => if (ph || σ.2.2.2.2.2 a i) = true then some (ad (zrl (zST a) a i).2.1.toNat) else none
def zwr (K : zCx) (σ : zS) : Nat → Option Nat := fun i => if σ.2.1 i < 0 then none else some (K.adW (σ.2.1 i).toNat)
def zent (K : zCx) (ph : Bool) (ad : Nat → Nat) (σ : zS) (a : Nat) : va_E :=
  if zST a < 30 then .inr (zST a - 10, (List.range (zNF (zST a - 10))).map (fun k => zfv K ph ad σ a k))
  else if zST a = 30 then .inl (K.cA 30, (zYT a).toNat, .inl (fun i => Int32.ofInt (σ.1 a i)))
  else if zST a = 31 then .inl (K.cA 31, (zYT a).toNat, .inr (.inl (fun i => Int64.ofInt (σ.1 a i))))
  else if zST a = 34 then .inl (K.cA 34, (zYT a).toNat, .inr (.inr (.inr (.inr (zwr K σ)))))
  else .inl (K.cA (zST a), (zYT a).toNat, .inr (.inr (.inr (.inr (zrw K ph ad σ a)))))
def zWS (K : zCx) (ph : Bool) (ad : Nat → Nat) (σ : zS) : va_W := (List.range σ.2.2.2.2.1).map (fun a => (ad a, zent K ph ad σ a))
def zWf (ph : Bool) (σ : zS) : Prop :=
  (∀ a k : Int, if a = 1478 then zI64 (σ.1 a k) else zI32 (σ.1 a k)) ∧ (∀ i : Int, -1 ≤ σ.2.1 i ∧ σ.2.1 i < 33) ∧ σ.2.2.2.2.1 ≤ 1479 ∧ (ph = true → σ.2.2.2.2.1 = 1479) ∧
  (∀ a k : Int, (σ.2.2.2.2.1 : Int) ≤ a → σ.1 a k = 0 ∧ σ.2.2.2.2.2 a k = false) ∧ (σ.2.2.2.2.1 ≤ 310 → ∀ i : Int, σ.2.1 i = -1) ∧
  (∀ (a k : Nat) (v : zV), σ.2.2.2.2.2 a k = true → (zST a < 30 → zfd (zST a - 10) k a (zYT a) = some v → v.2.1.toNat < σ.2.2.2.2.1) ∧ (zST a = 32 ∨ zST a = 33 → (zrl (zST a) a k).2.1.toNat < σ.2.2.2.2.1))
def zPic (K : zCx) (ph : Bool) (ad : Nat → Nat) (σ : zS) (H : Heap) : Prop := va_P K.D zCl (zWS K ph ad σ) H ∧ va_D K.A (zWS K ph ad σ) ∧ zWf ph σ
theorem zWS_at {K : zCx} {ph : Bool} {ad : Nat → Nat} {σ : zS} {a : Nat} (h : a < σ.2.2.2.2.1) : (zWS K ph ad σ)[a]? = some (ad a, zent K ph ad σ a) := by
  unfold zWS
  rw [List.getElem?_map, List.getElem?_range h]
  rfl
theorem zWS_len {K : zCx} {ph : Bool} {ad : Nat → Nat} {σ : zS} : (zWS K ph ad σ).length = σ.2.2.2.2.1 := by simp [zWS]
/-- one object written -/
theorem zWS_set {K : zCx} {ph : Bool} {ad : Nat → Nat} {σ σ' : zS} {a : Nat} {e : va_E} (hn : σ'.2.2.2.2.1 = σ.2.2.2.2.1) (ho : ∀ b : Nat, b < σ.2.2.2.2.1 → b ≠ a → zent K ph ad σ' b = zent K ph ad σ b) (ha : zent K ph ad σ' a = e) :
    (zWS K ph ad σ).set a (ad a, e) = zWS K ph ad σ' := by
  apply List.ext_getElem?
  intro i
  by_cases hi : i < σ.2.2.2.2.1
  · rw [zWS_at (by omega)]
    by_cases hia : i = a
    · subst hia
      rw [List.getElem?_set_self (by rw [zWS_len]; exact hi), ha]
    · rw [List.getElem?_set_ne (fun z => hia z.symm), zWS_at hi, ho i hi hia]
  · rw [List.getElem?_eq_none (by rw [List.length_set, zWS_len]; omega), List.getElem?_eq_none (by rw [zWS_len]; omega)]
/-- one object more -/
theorem zWS_push {K : zCx} {ph : Bool} {ad ad' : Nat → Nat} {σ σ' : zS} {q : Nat} {e : va_E} (hn : σ'.2.2.2.2.1 = σ.2.2.2.2.1 + 1) (hag : zag ad ad' σ.2.2.2.2.1) (hq : ad' σ.2.2.2.2.1 = q) (ho : ∀ b : Nat, b < σ.2.2.2.2.1 → zent K ph ad' σ' b = zent K ph ad σ b) (ha : zent K ph ad' σ' σ.2.2.2.2.1 = e) :
    zWS K ph ad σ ++ [(q, e)] = zWS K ph ad' σ' := by
  apply List.ext_getElem?
  intro i
  by_cases hi : i < σ.2.2.2.2.1
  · rw [List.getElem?_append_left (by rw [zWS_len]; exact hi), zWS_at hi, zWS_at (by omega), ho i hi, hag i hi]
  · by_cases hi2 : i = σ.2.2.2.2.1
    · subst hi2
      rw [List.getElem?_append_right (by rw [zWS_len]; exact Nat.le_refl _), zWS_len, Nat.sub_self, zWS_at (by omega), ha, hq]
      rfl
    · rw [List.getElem?_eq_none (by rw [List.length_append, zWS_len]; simp; omega), List.getElem?_eq_none (by rw [zWS_len]; omega)]
theorem zent_o {K : zCx} {ph : Bool} {ad : Nat → Nat} {σ : zS} {a t : Nat} (h : zST a = t) (ht : t < 30) : zent K ph ad σ a = .inr (t - 10, (List.range (zNF (t - 10))).map (fun k => zfv K ph ad σ a k)) := by
  subst h
  unfold zent
  rw [if_pos ht]
theorem zent_i {K : zCx} {ph : Bool} {ad : Nat → Nat} {σ : zS} {a : Nat} (h : zST a = 30) : zent K ph ad σ a = .inl (K.cA 30, (zYT a).toNat, .inl (fun i => Int32.ofInt (σ.1 a i))) := by
  unfold zent
  rw [if_neg (by omega), if_pos h]
theorem zent_l {K : zCx} {ph : Bool} {ad : Nat → Nat} {σ : zS} {a : Nat} (h : zST a = 31) : zent K ph ad σ a = .inl (K.cA 31, (zYT a).toNat, .inr (.inl (fun i => Int64.ofInt (σ.1 a i)))) := by
  unfold zent
  rw [if_neg (by omega), if_neg (by omega), if_pos h]
theorem zent_w {K : zCx} {ph : Bool} {ad : Nat → Nat} {σ : zS} {a : Nat} (h : zST a = 34) : zent K ph ad σ a = .inl (K.cA 34, (zYT a).toNat, .inr (.inr (.inr (.inr (zwr K σ))))) := by
  unfold zent
  rw [if_neg (by omega), if_neg (by omega), if_neg (by omega), if_pos h]
theorem zent_r {K : zCx} {ph : Bool} {ad : Nat → Nat} {σ : zS} {a : Nat} (h : zST a = 32 ∨ zST a = 33) : zent K ph ad σ a = .inl (K.cA (zST a), (zYT a).toNat, .inr (.inr (.inr (.inr (zrw K ph ad σ a))))) := by
  unfold zent
  rw [if_neg (by omega), if_neg (by omega), if_neg (by omega), if_neg (by omega)]
/-- the tables say of each object's references and of each row of objects what they are -/
def zokf (a : Nat) : Bool := Nat.ble 30 (zST a) || (List.range (zNF (zST a - 10))).all (fun k => match zfd (zST a - 10) k a (zYT a) with
  | none => true
  | some v => Nat.ble 10 v.1 && Nat.blt v.1 35 && decide (0 ≤ v.2.1) && Nat.blt v.2.1.toNat 1479 && Nat.beq (zST v.2.1.toNat) v.1 && decide (v.2.2 = zYT v.2.1.toNat))
def zokr (a : Nat) : Bool := (Nat.beq (zST a) 32 || Nat.beq (zST a) 33) == false || (List.range (zYT a).toNat).all (fun i => Nat.blt (zrl (zST a) a i).2.1.toNat 1479 && decide (0 ≤ (zrl (zST a) a i).2.1) && Nat.beq (zST (zrl (zST a) a i).2.1.toNat) (zrl (zST a) a i).1 && decide (zYT (zrl (zST a) a i).2.1.toNat = 0))
def zokt (a : Nat) : Bool := Nat.ble 10 (zST a) && Nat.blt (zST a) 35 && (Nat.blt (zST a) 21 || Nat.ble 30 (zST a)) && decide (0 ≤ zYT a ∧ zYT a < 65536) && (Nat.beq (zST a) 31 == Nat.beq a 1478) && (Nat.beq (zST a) 34 == Nat.beq a 310)
/-- the same tables, in rows of forty -/
def zSTc : List (List Nat) := [[19, 30, 12, 30, 30, 30, 30, 30, 30, 12, 30, 30, 30, 30, 30, 30, 12, 30, 30, 30, 30, 30, 30, 18, 32, 13, 16, 30, 30, 30, 30, 16, 30, 30, 30, 30, 10, 30, 30, 30], [30, 30, 30, 11, 30, 30, 13, 16, 30, 30, 30, 30, 16, 30, 30, 30, 30, 10, 30, 30, 30, 30, 30, 30, 13, 16, 30, 30, 30, 30, 16, 30, 30, 30, 30, 10, 30, 30, 30, 30], [30, 30, 13, 16, 30, 30, 30, 30, 16, 30, 30, 30, 30, 10, 30, 30, 30, 30, 30, 30, 13, 16, 30, 30, 30, 30, 16, 30, 30, 30, 30, 10, 30, 30, 30, 30, 30, 30, 18, 32], [13, 16, 30, 30, 30, 30, 16, 30, 30, 30, 30, 10, 30, 30, 30, 30, 30, 30, 11, 30, 30, 13, 16, 30, 30, 30, 30, 16, 30, 30, 30, 30, 10, 30, 30, 30, 30, 30, 30, 13], [16, 30, 30, 30, 30, 16, 30, 30, 30, 30, 10, 30, 30, 30, 30, 30, 30, 13, 16, 30, 30, 30, 30, 16, 30, 30, 30, 30, 10, 30, 30, 30, 30, 30, 30, 13, 16, 30, 30, 30], [30, 16, 30, 30, 30, 30, 10, 30, 30, 30, 30, 30, 30, 18, 32, 13, 16, 30, 30, 30, 30, 16, 30, 30, 30, 30, 10, 30, 30, 30, 30, 30, 30, 11, 30, 30, 13, 16, 30, 30], [30, 30, 16, 30, 30, 30, 30, 10, 30, 30, 30, 30, 30, 30, 13, 16, 30, 30, 30, 30, 16, 30, 30, 30, 30, 10, 30, 30, 30, 30, 30, 30, 13, 16, 30, 30, 30, 30, 16, 30], [30, 30, 30, 10, 30, 30, 30, 30, 30, 30, 13, 16, 30, 30, 30, 30, 16, 30, 30, 30, 30, 10, 30, 30, 30, 30, 30, 30, 33, 15, 34, 30, 30, 14, 30, 30, 30, 17, 30, 30], [30, 30, 30, 30, 18, 32, 13, 16, 30, 30, 30, 30, 16, 30, 30, 30, 30, 10, 30, 30, 30, 30, 30, 30, 11, 30, 30, 13, 16, 30, 30, 30, 30, 16, 30, 30, 30, 30, 10, 30], [30, 30, 30, 30, 30, 13, 16, 30, 30, 30, 30, 16, 30, 30, 30, 30, 10, 30, 30, 30, 30, 30, 30, 13, 16, 30, 30, 30, 30, 16, 30, 30, 30, 30, 10, 30, 30, 30, 30, 30], [30, 13, 16, 30, 30, 30, 30, 16, 30, 30, 30, 30, 10, 30, 30, 30, 30, 30, 30, 18, 32, 13, 16, 30, 30, 30, 30, 16, 30, 30, 30, 30, 10, 30, 30, 30, 30, 30, 30, 11], [30, 30, 13, 16, 30, 30, 30, 30, 16, 30, 30, 30, 30, 10, 30, 30, 30, 30, 30, 30, 13, 16, 30, 30, 30, 30, 16, 30, 30, 30, 30, 10, 30, 30, 30, 30, 30, 30, 13, 16], [30, 30, 30, 30, 16, 30, 30, 30, 30, 10, 30, 30, 30, 30, 30, 30, 13, 16, 30, 30, 30, 30, 16, 30, 30, 30, 30, 10, 30, 30, 30, 30, 30, 30, 18, 32, 13, 16, 30, 30], [30, 30, 16, 30, 30, 30, 30, 10, 30, 30, 30, 30, 30, 30, 11, 30, 30, 13, 16, 30, 30, 30, 30, 16, 30, 30, 30, 30, 10, 30, 30, 30, 30, 30, 30, 13, 16, 30, 30, 30], [30, 16, 30, 30, 30, 30, 10, 30, 30, 30, 30, 30, 30, 13, 16, 30, 30, 30, 30, 16, 30, 30, 30, 30, 10, 30, 30, 30, 30, 30, 30, 13, 16, 30, 30, 30, 30, 16, 30, 30], [30, 30, 10, 30, 30, 30, 30, 30, 30, 18, 32, 13, 16, 30, 30, 30, 30, 16, 30, 30, 30, 30, 10, 30, 30, 30, 30, 30, 30, 11, 30, 30, 13, 16, 30, 30, 30, 30, 16, 30], [30, 30, 30, 10, 30, 30, 30, 30, 30, 30, 13, 16, 30, 30, 30, 30, 16, 30, 30, 30, 30, 10, 30, 30, 30, 30, 30, 30, 13, 16, 30, 30, 30, 30, 16, 30, 30, 30, 30, 10], [30, 30, 30, 30, 30, 30, 13, 16, 30, 30, 30, 30, 16, 30, 30, 30, 30, 10, 30, 30, 30, 30, 30, 30, 18, 32, 13, 16, 30, 30, 30, 30, 16, 30, 30, 30, 30, 10, 30, 30], [30, 30, 30, 30, 11, 30, 30, 13, 16, 30, 30, 30, 30, 16, 30, 30, 30, 30, 10, 30, 30, 30, 30, 30, 30, 13, 16, 30, 30, 30, 30, 16, 30, 30, 30, 30, 10, 30, 30, 30], [30, 30, 30, 13, 16, 30, 30, 30, 30, 16, 30, 30, 30, 30, 10, 30, 30, 30, 30, 30, 30, 13, 16, 30, 30, 30, 30, 16, 30, 30, 30, 30, 10, 30, 30, 30, 30, 30, 30, 18], [32, 13, 16, 30, 30, 30, 30, 16, 30, 30, 30, 30, 10, 30, 30, 30, 30, 30, 30, 11, 30, 30, 13, 16, 30, 30, 30, 30, 16, 30, 30, 30, 30, 10, 30, 30, 30, 30, 30, 30], [13, 16, 30, 30, 30, 30, 16, 30, 30, 30, 30, 10, 30, 30, 30, 30, 30, 30, 13, 16, 30, 30, 30, 30, 16, 30, 30, 30, 30, 10, 30, 30, 30, 30, 30, 30, 13, 16, 30, 30], [30, 30, 16, 30, 30, 30, 30, 10, 30, 30, 30, 30, 30, 30, 18, 32, 13, 16, 30, 30, 30, 30, 16, 30, 30, 30, 30, 10, 30, 30, 30, 30, 30, 30, 11, 30, 30, 13, 16, 30], [30, 30, 30, 16, 30, 30, 30, 30, 10, 30, 30, 30, 30, 30, 30, 13, 16, 30, 30, 30, 30, 16, 30, 30, 30, 30, 10, 30, 30, 30, 30, 30, 30, 13, 16, 30, 30, 30, 30, 16], [30, 30, 30, 30, 10, 30, 30, 30, 30, 30, 30, 13, 16, 30, 30, 30, 30, 16, 30, 30, 30, 30, 10, 30, 30, 30, 30, 30, 30, 18, 32, 13, 16, 30, 30, 30, 30, 16, 30, 30], [30, 30, 10, 30, 30, 30, 30, 30, 30, 11, 30, 30, 13, 16, 30, 30, 30, 30, 16, 30, 30, 30, 30, 10, 30, 30, 30, 30, 30, 30, 13, 16, 30, 30, 30, 30, 16, 30, 30, 30], [30, 10, 30, 30, 30, 30, 30, 30, 13, 16, 30, 30, 30, 30, 16, 30, 30, 30, 30, 10, 30, 30, 30, 30, 30, 30, 13, 16, 30, 30, 30, 30, 16, 30, 30, 30, 30, 10, 30, 30], [30, 30, 30, 30, 18, 32, 13, 16, 30, 30, 30, 30, 16, 30, 30, 30, 30, 10, 30, 30, 30, 30, 30, 30, 11, 30, 30, 13, 16, 30, 30, 30, 30, 16, 30, 30, 30, 30, 10, 30], [30, 30, 30, 30, 30, 13, 16, 30, 30, 30, 30, 16, 30, 30, 30, 30, 10, 30, 30, 30, 30, 30, 30, 13, 16, 30, 30, 30, 30, 16, 30, 30, 30, 30, 10, 30, 30, 30, 30, 30], [30, 13, 16, 30, 30, 30, 30, 16, 30, 30, 30, 30, 10, 30, 30, 30, 30, 30, 30, 18, 32, 13, 16, 30, 30, 30, 30, 16, 30, 30, 30, 30, 10, 30, 30, 30, 30, 30, 30, 11], [30, 30, 13, 16, 30, 30, 30, 30, 16, 30, 30, 30, 30, 10, 30, 30, 30, 30, 30, 30, 13, 16, 30, 30, 30, 30, 16, 30, 30, 30, 30, 10, 30, 30, 30, 30, 30, 30, 13, 16], [30, 30, 30, 30, 16, 30, 30, 30, 30, 10, 30, 30, 30, 30, 30, 30, 13, 16, 30, 30, 30, 30, 16, 30, 30, 30, 30, 10, 30, 30, 30, 30, 30, 30, 18, 32, 13, 16, 30, 30], [30, 30, 16, 30, 30, 30, 30, 10, 30, 30, 30, 30, 30, 30, 11, 30, 30, 13, 16, 30, 30, 30, 30, 16, 30, 30, 30, 30, 10, 30, 30, 30, 30, 30, 30, 13, 16, 30, 30, 30], [30, 16, 30, 30, 30, 30, 10, 30, 30, 30, 30, 30, 30, 13, 16, 30, 30, 30, 30, 16, 30, 30, 30, 30, 10, 30, 30, 30, 30, 30, 30, 13, 16, 30, 30, 30, 30, 16, 30, 30], [30, 30, 10, 30, 30, 30, 30, 30, 30, 18, 32, 13, 16, 30, 30, 30, 30, 16, 30, 30, 30, 30, 10, 30, 30, 30, 30, 30, 30, 11, 30, 30, 13, 16, 30, 30, 30, 30, 16, 30], [30, 30, 30, 10, 30, 30, 30, 30, 30, 30, 13, 16, 30, 30, 30, 30, 16, 30, 30, 30, 30, 10, 30, 30, 30, 30, 30, 30, 13, 16, 30, 30, 30, 30, 16, 30, 30, 30, 30, 10], [30, 30, 30, 30, 30, 30, 13, 16, 30, 30, 30, 30, 16, 30, 30, 30, 30, 10, 30, 30, 30, 30, 30, 30, 20, 30, 30, 30, 30, 30, 30, 30, 30, 30, 30, 30, 30, 30, 31]]
def zYTc : List (List Int) := [[0, 400, 0, 12, 12, 12, 12, 400, 64, 0, 12, 12, 12, 12, 400, 64, 0, 12, 12, 12, 12, 400, 64, 0, 4, 0, 96, 96, 96, 0, 0, 8, 8, 8, 8, 8, 0, 4, 4, 4], [4, 4, 4, 0, 240, 10, 0, 96, 96, 96, 0, 0, 8, 8, 8, 8, 8, 0, 4, 4, 4, 4, 4, 4, 0, 96, 96, 96, 0, 0, 8, 8, 8, 8, 8, 0, 4, 4, 4, 4], [4, 4, 0, 96, 96, 96, 0, 0, 8, 8, 8, 8, 8, 0, 4, 4, 4, 4, 4, 4, 0, 96, 96, 96, 0, 0, 8, 8, 8, 8, 8, 0, 4, 4, 4, 4, 4, 4, 0, 4], [0, 96, 96, 96, 0, 0, 8, 8, 8, 8, 8, 0, 4, 4, 4, 4, 4, 4, 0, 240, 10, 0, 96, 96, 96, 0, 0, 8, 8, 8, 8, 8, 0, 4, 4, 4, 4, 4, 4, 0], [96, 96, 96, 0, 0, 8, 8, 8, 8, 8, 0, 4, 4, 4, 4, 4, 4, 0, 96, 96, 96, 0, 0, 8, 8, 8, 8, 8, 0, 4, 4, 4, 4, 4, 4, 0, 96, 96, 96, 0], [0, 8, 8, 8, 8, 8, 0, 4, 4, 4, 4, 4, 4, 0, 4, 0, 96, 96, 96, 0, 0, 8, 8, 8, 8, 8, 0, 4, 4, 4, 4, 4, 4, 0, 240, 10, 0, 96, 96, 96], [0, 0, 8, 8, 8, 8, 8, 0, 4, 4, 4, 4, 4, 4, 0, 96, 96, 96, 0, 0, 8, 8, 8, 8, 8, 0, 4, 4, 4, 4, 4, 4, 0, 96, 96, 96, 0, 0, 8, 8], [8, 8, 8, 0, 4, 4, 4, 4, 4, 4, 0, 96, 96, 96, 0, 0, 8, 8, 8, 8, 8, 0, 4, 4, 4, 4, 4, 4, 12, 0, 401, 401, 401, 0, 40, 40, 144, 0, 8, 8], [4, 4, 4, 4, 0, 4, 0, 96, 96, 96, 0, 0, 8, 8, 8, 8, 8, 0, 4, 4, 4, 4, 4, 4, 0, 240, 10, 0, 96, 96, 96, 0, 0, 8, 8, 8, 8, 8, 0, 4], [4, 4, 4, 4, 4, 0, 96, 96, 96, 0, 0, 8, 8, 8, 8, 8, 0, 4, 4, 4, 4, 4, 4, 0, 96, 96, 96, 0, 0, 8, 8, 8, 8, 8, 0, 4, 4, 4, 4, 4], [4, 0, 96, 96, 96, 0, 0, 8, 8, 8, 8, 8, 0, 4, 4, 4, 4, 4, 4, 0, 4, 0, 96, 96, 96, 0, 0, 8, 8, 8, 8, 8, 0, 4, 4, 4, 4, 4, 4, 0], [240, 10, 0, 96, 96, 96, 0, 0, 8, 8, 8, 8, 8, 0, 4, 4, 4, 4, 4, 4, 0, 96, 96, 96, 0, 0, 8, 8, 8, 8, 8, 0, 4, 4, 4, 4, 4, 4, 0, 96], [96, 96, 0, 0, 8, 8, 8, 8, 8, 0, 4, 4, 4, 4, 4, 4, 0, 96, 96, 96, 0, 0, 8, 8, 8, 8, 8, 0, 4, 4, 4, 4, 4, 4, 0, 4, 0, 96, 96, 96], [0, 0, 8, 8, 8, 8, 8, 0, 4, 4, 4, 4, 4, 4, 0, 240, 10, 0, 96, 96, 96, 0, 0, 8, 8, 8, 8, 8, 0, 4, 4, 4, 4, 4, 4, 0, 96, 96, 96, 0], [0, 8, 8, 8, 8, 8, 0, 4, 4, 4, 4, 4, 4, 0, 96, 96, 96, 0, 0, 8, 8, 8, 8, 8, 0, 4, 4, 4, 4, 4, 4, 0, 96, 96, 96, 0, 0, 8, 8, 8], [8, 8, 0, 4, 4, 4, 4, 4, 4, 0, 4, 0, 96, 96, 96, 0, 0, 8, 8, 8, 8, 8, 0, 4, 4, 4, 4, 4, 4, 0, 240, 10, 0, 96, 96, 96, 0, 0, 8, 8], [8, 8, 8, 0, 4, 4, 4, 4, 4, 4, 0, 96, 96, 96, 0, 0, 8, 8, 8, 8, 8, 0, 4, 4, 4, 4, 4, 4, 0, 96, 96, 96, 0, 0, 8, 8, 8, 8, 8, 0], [4, 4, 4, 4, 4, 4, 0, 96, 96, 96, 0, 0, 8, 8, 8, 8, 8, 0, 4, 4, 4, 4, 4, 4, 0, 4, 0, 96, 96, 96, 0, 0, 8, 8, 8, 8, 8, 0, 4, 4], [4, 4, 4, 4, 0, 240, 10, 0, 96, 96, 96, 0, 0, 8, 8, 8, 8, 8, 0, 4, 4, 4, 4, 4, 4, 0, 96, 96, 96, 0, 0, 8, 8, 8, 8, 8, 0, 4, 4, 4], [4, 4, 4, 0, 96, 96, 96, 0, 0, 8, 8, 8, 8, 8, 0, 4, 4, 4, 4, 4, 4, 0, 96, 96, 96, 0, 0, 8, 8, 8, 8, 8, 0, 4, 4, 4, 4, 4, 4, 0], [4, 0, 96, 96, 96, 0, 0, 8, 8, 8, 8, 8, 0, 4, 4, 4, 4, 4, 4, 0, 240, 10, 0, 96, 96, 96, 0, 0, 8, 8, 8, 8, 8, 0, 4, 4, 4, 4, 4, 4], [0, 96, 96, 96, 0, 0, 8, 8, 8, 8, 8, 0, 4, 4, 4, 4, 4, 4, 0, 96, 96, 96, 0, 0, 8, 8, 8, 8, 8, 0, 4, 4, 4, 4, 4, 4, 0, 96, 96, 96], [0, 0, 8, 8, 8, 8, 8, 0, 4, 4, 4, 4, 4, 4, 0, 4, 0, 96, 96, 96, 0, 0, 8, 8, 8, 8, 8, 0, 4, 4, 4, 4, 4, 4, 0, 240, 10, 0, 96, 96], [96, 0, 0, 8, 8, 8, 8, 8, 0, 4, 4, 4, 4, 4, 4, 0, 96, 96, 96, 0, 0, 8, 8, 8, 8, 8, 0, 4, 4, 4, 4, 4, 4, 0, 96, 96, 96, 0, 0, 8], [8, 8, 8, 8, 0, 4, 4, 4, 4, 4, 4, 0, 96, 96, 96, 0, 0, 8, 8, 8, 8, 8, 0, 4, 4, 4, 4, 4, 4, 0, 4, 0, 96, 96, 96, 0, 0, 8, 8, 8], [8, 8, 0, 4, 4, 4, 4, 4, 4, 0, 240, 10, 0, 96, 96, 96, 0, 0, 8, 8, 8, 8, 8, 0, 4, 4, 4, 4, 4, 4, 0, 96, 96, 96, 0, 0, 8, 8, 8, 8], [8, 0, 4, 4, 4, 4, 4, 4, 0, 96, 96, 96, 0, 0, 8, 8, 8, 8, 8, 0, 4, 4, 4, 4, 4, 4, 0, 96, 96, 96, 0, 0, 8, 8, 8, 8, 8, 0, 4, 4], [4, 4, 4, 4, 0, 4, 0, 96, 96, 96, 0, 0, 8, 8, 8, 8, 8, 0, 4, 4, 4, 4, 4, 4, 0, 240, 10, 0, 96, 96, 96, 0, 0, 8, 8, 8, 8, 8, 0, 4], [4, 4, 4, 4, 4, 0, 96, 96, 96, 0, 0, 8, 8, 8, 8, 8, 0, 4, 4, 4, 4, 4, 4, 0, 96, 96, 96, 0, 0, 8, 8, 8, 8, 8, 0, 4, 4, 4, 4, 4], [4, 0, 96, 96, 96, 0, 0, 8, 8, 8, 8, 8, 0, 4, 4, 4, 4, 4, 4, 0, 4, 0, 96, 96, 96, 0, 0, 8, 8, 8, 8, 8, 0, 4, 4, 4, 4, 4, 4, 0], [240, 10, 0, 96, 96, 96, 0, 0, 8, 8, 8, 8, 8, 0, 4, 4, 4, 4, 4, 4, 0, 96, 96, 96, 0, 0, 8, 8, 8, 8, 8, 0, 4, 4, 4, 4, 4, 4, 0, 96], [96, 96, 0, 0, 8, 8, 8, 8, 8, 0, 4, 4, 4, 4, 4, 4, 0, 96, 96, 96, 0, 0, 8, 8, 8, 8, 8, 0, 4, 4, 4, 4, 4, 4, 0, 4, 0, 96, 96, 96], [0, 0, 8, 8, 8, 8, 8, 0, 4, 4, 4, 4, 4, 4, 0, 240, 10, 0, 96, 96, 96, 0, 0, 8, 8, 8, 8, 8, 0, 4, 4, 4, 4, 4, 4, 0, 96, 96, 96, 0], [0, 8, 8, 8, 8, 8, 0, 4, 4, 4, 4, 4, 4, 0, 96, 96, 96, 0, 0, 8, 8, 8, 8, 8, 0, 4, 4, 4, 4, 4, 4, 0, 96, 96, 96, 0, 0, 8, 8, 8], [8, 8, 0, 4, 4, 4, 4, 4, 4, 0, 4, 0, 96, 96, 96, 0, 0, 8, 8, 8, 8, 8, 0, 4, 4, 4, 4, 4, 4, 0, 240, 10, 0, 96, 96, 96, 0, 0, 8, 8], [8, 8, 8, 0, 4, 4, 4, 4, 4, 4, 0, 96, 96, 96, 0, 0, 8, 8, 8, 8, 8, 0, 4, 4, 4, 4, 4, 4, 0, 96, 96, 96, 0, 0, 8, 8, 8, 8, 8, 0], [4, 4, 4, 4, 4, 4, 0, 96, 96, 96, 0, 0, 8, 8, 8, 8, 8, 0, 4, 4, 4, 4, 4, 4, 0, 1710, 1710, 1310, 15720, 400, 7, 5, 5, 208, 8, 8, 16, 4, 1]]
def zSq (a : Nat) : Nat := (zSTc.getD (a / 40) []).getD (a % 40) 0
def zYq (a : Nat) : Int := (zYTc.getD (a / 40) []).getD (a % 40) 0
theorem zSq_l : (List.range 1479).map zSq = zSTl := by decide +kernel
theorem zYq_l : (List.range 1479).map zYq = zYTl := by decide +kernel
theorem zout2 {α : Type} {d : α} {c : List (List α)} {l : List α} (hc : c.length = 37) (h36 : c.getD 36 [] = l) (hl : l.length = 39) {a : Nat} (h : 1479 ≤ a) : (c.getD (a / 40) []).getD (a % 40) d = d := by
  by_cases h2 : a = 1479
  · subst h2
    show (c.getD 36 []).getD 39 d = d
    rw [h36, List.getD_eq_getElem?_getD, List.getElem?_eq_none (by omega)]
    rfl
  · have h3 : c[a / 40]? = none := List.getElem?_eq_none (by omega)
    rw [List.getD_eq_getElem?_getD, List.getD_eq_getElem?_getD, h3]
    rfl
theorem zSq_fn : zST = zSq := by
  funext a
  by_cases h : a < 1479
  · unfold zST
    rw [← zSq_l, List.getD_eq_getElem?_getD, List.getElem?_map, List.getElem?_range h]
    rfl
  · have h1 : zSq a = 0 := zout2 (by decide +kernel) rfl (by decide +kernel) (by omega)
    rw [h1]
    unfold zST
    rw [List.getD_eq_getElem?_getD, List.getElem?_eq_none (by rw [← zSq_l, List.length_map, List.length_range]; omega)]
    rfl
theorem zYq_fn : zYT = zYq := by
  funext a
  by_cases h : a < 1479
  · unfold zYT
    rw [← zYq_l, List.getD_eq_getElem?_getD, List.getElem?_map, List.getElem?_range h]
    rfl
  · have h1 : zYq a = 0 := zout2 (by decide +kernel) rfl (by decide +kernel) (by omega)
    rw [h1]
    unfold zYT
    rw [List.getD_eq_getElem?_getD, List.getElem?_eq_none (by rw [← zYq_l, List.length_map, List.length_range]; omega)]
    rfl
def zokfG (S : Nat → Nat) (Y : Nat → Int) (a : Nat) : Bool := Nat.ble 30 (S a) || (List.range (zNF (S a - 10))).all (fun k => match zfd (S a - 10) k a (Y a) with
  | none => true
  | some v => Nat.ble 10 v.1 && Nat.blt v.1 35 && decide (0 ≤ v.2.1) && Nat.blt v.2.1.toNat 1479 && Nat.beq (S v.2.1.toNat) v.1 && decide (v.2.2 = Y v.2.1.toNat))
theorem zokf_eq : zokf = zokfG zSq zYq := by
  rw [← zSq_fn, ← zYq_fn]
  rfl
def zokrG (S : Nat → Nat) (Y : Nat → Int) (a : Nat) : Bool := (Nat.beq (S a) 32 || Nat.beq (S a) 33) == false || (List.range (Y a).toNat).all (fun i => Nat.blt (zrl (S a) a i).2.1.toNat 1479 && decide (0 ≤ (zrl (S a) a i).2.1) && Nat.beq (S (zrl (S a) a i).2.1.toNat) (zrl (S a) a i).1 && decide (Y (zrl (S a) a i).2.1.toNat = 0))
theorem zokr_eq : zokr = zokrG zSq zYq := by
  rw [← zSq_fn, ← zYq_fn]
  rfl
def zoktG (S : Nat → Nat) (Y : Nat → Int) (a : Nat) : Bool := Nat.ble 10 (S a) && Nat.blt (S a) 35 && (Nat.blt (S a) 21 || Nat.ble 30 (S a)) && decide (0 ≤ Y a ∧ Y a < 65536) && (Nat.beq (S a) 31 == Nat.beq a 1478) && (Nat.beq (S a) 34 == Nat.beq a 310)
theorem zokt_eq : zokt = zoktG zSq zYq := by
  rw [← zSq_fn, ← zYq_fn]
  rfl
theorem zokf_0 : (List.range 100).all (fun i => zokf (0 + i)) = true := by rw [zokf_eq]; decide +kernel
theorem zokf_100 : (List.range 100).all (fun i => zokf (100 + i)) = true := by rw [zokf_eq]; decide +kernel
theorem zokf_200 : (List.range 100).all (fun i => zokf (200 + i)) = true := by rw [zokf_eq]; decide +kernel
theorem zokf_300 : (List.range 100).all (fun i => zokf (300 + i)) = true := by rw [zokf_eq]; decide +kernel
theorem zokf_400 : (List.range 100).all (fun i => zokf (400 + i)) = true := by rw [zokf_eq]; decide +kernel
theorem zokf_500 : (List.range 100).all (fun i => zokf (500 + i)) = true := by rw [zokf_eq]; decide +kernel
theorem zokf_600 : (List.range 100).all (fun i => zokf (600 + i)) = true := by rw [zokf_eq]; decide +kernel
theorem zokf_700 : (List.range 100).all (fun i => zokf (700 + i)) = true := by rw [zokf_eq]; decide +kernel
theorem zokf_800 : (List.range 100).all (fun i => zokf (800 + i)) = true := by rw [zokf_eq]; decide +kernel
theorem zokf_900 : (List.range 100).all (fun i => zokf (900 + i)) = true := by rw [zokf_eq]; decide +kernel
theorem zokf_1000 : (List.range 100).all (fun i => zokf (1000 + i)) = true := by rw [zokf_eq]; decide +kernel
theorem zokf_1100 : (List.range 100).all (fun i => zokf (1100 + i)) = true := by rw [zokf_eq]; decide +kernel
theorem zokf_1200 : (List.range 100).all (fun i => zokf (1200 + i)) = true := by rw [zokf_eq]; decide +kernel
theorem zokf_1300 : (List.range 100).all (fun i => zokf (1300 + i)) = true := by rw [zokf_eq]; decide +kernel
theorem zokf_1400 : (List.range 79).all (fun i => zokf (1400 + i)) = true := by rw [zokf_eq]; decide +kernel
theorem zokf_ok {a : Nat} (h : a < 1479) : zokf a = true := by
  by_cases c0 : a < 100
  · have := List.all_eq_true.mp zokf_0 (a - 0) (List.mem_range.mpr (by omega))
    rwa [show 0 + (a - 0) = a by omega] at this
  · by_cases c1 : a < 200
    · have := List.all_eq_true.mp zokf_100 (a - 100) (List.mem_range.mpr (by omega))
      rwa [show 100 + (a - 100) = a by omega] at this
    · by_cases c2 : a < 300
      · have := List.all_eq_true.mp zokf_200 (a - 200) (List.mem_range.mpr (by omega))
        rwa [show 200 + (a - 200) = a by omega] at this
      · by_cases c3 : a < 400
        · have := List.all_eq_true.mp zokf_300 (a - 300) (List.mem_range.mpr (by omega))
          rwa [show 300 + (a - 300) = a by omega] at this
        · by_cases c4 : a < 500
          · have := List.all_eq_true.mp zokf_400 (a - 400) (List.mem_range.mpr (by omega))
            rwa [show 400 + (a - 400) = a by omega] at this
          · by_cases c5 : a < 600
            · have := List.all_eq_true.mp zokf_500 (a - 500) (List.mem_range.mpr (by omega))
              rwa [show 500 + (a - 500) = a by omega] at this
            · by_cases c6 : a < 700
              · have := List.all_eq_true.mp zokf_600 (a - 600) (List.mem_range.mpr (by omega))
                rwa [show 600 + (a - 600) = a by omega] at this
              · by_cases c7 : a < 800
                · have := List.all_eq_true.mp zokf_700 (a - 700) (List.mem_range.mpr (by omega))
                  rwa [show 700 + (a - 700) = a by omega] at this
                · by_cases c8 : a < 900
                  · have := List.all_eq_true.mp zokf_800 (a - 800) (List.mem_range.mpr (by omega))
                    rwa [show 800 + (a - 800) = a by omega] at this
                  · by_cases c9 : a < 1000
                    · have := List.all_eq_true.mp zokf_900 (a - 900) (List.mem_range.mpr (by omega))
                      rwa [show 900 + (a - 900) = a by omega] at this
                    · by_cases c10 : a < 1100
                      · have := List.all_eq_true.mp zokf_1000 (a - 1000) (List.mem_range.mpr (by omega))
                        rwa [show 1000 + (a - 1000) = a by omega] at this
                      · by_cases c11 : a < 1200
                        · have := List.all_eq_true.mp zokf_1100 (a - 1100) (List.mem_range.mpr (by omega))
                          rwa [show 1100 + (a - 1100) = a by omega] at this
                        · by_cases c12 : a < 1300
                          · have := List.all_eq_true.mp zokf_1200 (a - 1200) (List.mem_range.mpr (by omega))
                            rwa [show 1200 + (a - 1200) = a by omega] at this
                          · by_cases c13 : a < 1400
                            · have := List.all_eq_true.mp zokf_1300 (a - 1300) (List.mem_range.mpr (by omega))
                              rwa [show 1300 + (a - 1300) = a by omega] at this
                            · have := List.all_eq_true.mp zokf_1400 (a - 1400) (List.mem_range.mpr (by omega))
                              rwa [show 1400 + (a - 1400) = a by omega] at this
theorem zokr_0 : (List.range 100).all (fun i => zokr (0 + i)) = true := by rw [zokr_eq]; decide +kernel
theorem zokr_100 : (List.range 100).all (fun i => zokr (100 + i)) = true := by rw [zokr_eq]; decide +kernel
theorem zokr_200 : (List.range 100).all (fun i => zokr (200 + i)) = true := by rw [zokr_eq]; decide +kernel
theorem zokr_300 : (List.range 100).all (fun i => zokr (300 + i)) = true := by rw [zokr_eq]; decide +kernel
theorem zokr_400 : (List.range 100).all (fun i => zokr (400 + i)) = true := by rw [zokr_eq]; decide +kernel
theorem zokr_500 : (List.range 100).all (fun i => zokr (500 + i)) = true := by rw [zokr_eq]; decide +kernel
theorem zokr_600 : (List.range 100).all (fun i => zokr (600 + i)) = true := by rw [zokr_eq]; decide +kernel
theorem zokr_700 : (List.range 100).all (fun i => zokr (700 + i)) = true := by rw [zokr_eq]; decide +kernel
theorem zokr_800 : (List.range 100).all (fun i => zokr (800 + i)) = true := by rw [zokr_eq]; decide +kernel
theorem zokr_900 : (List.range 100).all (fun i => zokr (900 + i)) = true := by rw [zokr_eq]; decide +kernel
theorem zokr_1000 : (List.range 100).all (fun i => zokr (1000 + i)) = true := by rw [zokr_eq]; decide +kernel
theorem zokr_1100 : (List.range 100).all (fun i => zokr (1100 + i)) = true := by rw [zokr_eq]; decide +kernel
theorem zokr_1200 : (List.range 100).all (fun i => zokr (1200 + i)) = true := by rw [zokr_eq]; decide +kernel
theorem zokr_1300 : (List.range 100).all (fun i => zokr (1300 + i)) = true := by rw [zokr_eq]; decide +kernel
theorem zokr_1400 : (List.range 79).all (fun i => zokr (1400 + i)) = true := by rw [zokr_eq]; decide +kernel
theorem zokr_ok {a : Nat} (h : a < 1479) : zokr a = true := by
  by_cases c0 : a < 100
  · have := List.all_eq_true.mp zokr_0 (a - 0) (List.mem_range.mpr (by omega))
    rwa [show 0 + (a - 0) = a by omega] at this
  · by_cases c1 : a < 200
    · have := List.all_eq_true.mp zokr_100 (a - 100) (List.mem_range.mpr (by omega))
      rwa [show 100 + (a - 100) = a by omega] at this
    · by_cases c2 : a < 300
      · have := List.all_eq_true.mp zokr_200 (a - 200) (List.mem_range.mpr (by omega))
        rwa [show 200 + (a - 200) = a by omega] at this
      · by_cases c3 : a < 400
        · have := List.all_eq_true.mp zokr_300 (a - 300) (List.mem_range.mpr (by omega))
          rwa [show 300 + (a - 300) = a by omega] at this
        · by_cases c4 : a < 500
          · have := List.all_eq_true.mp zokr_400 (a - 400) (List.mem_range.mpr (by omega))
            rwa [show 400 + (a - 400) = a by omega] at this
          · by_cases c5 : a < 600
            · have := List.all_eq_true.mp zokr_500 (a - 500) (List.mem_range.mpr (by omega))
              rwa [show 500 + (a - 500) = a by omega] at this
            · by_cases c6 : a < 700
              · have := List.all_eq_true.mp zokr_600 (a - 600) (List.mem_range.mpr (by omega))
                rwa [show 600 + (a - 600) = a by omega] at this
              · by_cases c7 : a < 800
                · have := List.all_eq_true.mp zokr_700 (a - 700) (List.mem_range.mpr (by omega))
                  rwa [show 700 + (a - 700) = a by omega] at this
                · by_cases c8 : a < 900
                  · have := List.all_eq_true.mp zokr_800 (a - 800) (List.mem_range.mpr (by omega))
                    rwa [show 800 + (a - 800) = a by omega] at this
                  · by_cases c9 : a < 1000
                    · have := List.all_eq_true.mp zokr_900 (a - 900) (List.mem_range.mpr (by omega))
                      rwa [show 900 + (a - 900) = a by omega] at this
                    · by_cases c10 : a < 1100
                      · have := List.all_eq_true.mp zokr_1000 (a - 1000) (List.mem_range.mpr (by omega))
                        rwa [show 1000 + (a - 1000) = a by omega] at this
                      · by_cases c11 : a < 1200
                        · have := List.all_eq_true.mp zokr_1100 (a - 1100) (List.mem_range.mpr (by omega))
                          rwa [show 1100 + (a - 1100) = a by omega] at this
                        · by_cases c12 : a < 1300
                          · have := List.all_eq_true.mp zokr_1200 (a - 1200) (List.mem_range.mpr (by omega))
                            rwa [show 1200 + (a - 1200) = a by omega] at this
                          · by_cases c13 : a < 1400
                            · have := List.all_eq_true.mp zokr_1300 (a - 1300) (List.mem_range.mpr (by omega))
                              rwa [show 1300 + (a - 1300) = a by omega] at this
                            · have := List.all_eq_true.mp zokr_1400 (a - 1400) (List.mem_range.mpr (by omega))
                              rwa [show 1400 + (a - 1400) = a by omega] at this
theorem zokt_0 : (List.range 100).all (fun i => zokt (0 + i)) = true := by rw [zokt_eq]; decide +kernel
theorem zokt_100 : (List.range 100).all (fun i => zokt (100 + i)) = true := by rw [zokt_eq]; decide +kernel
theorem zokt_200 : (List.range 100).all (fun i => zokt (200 + i)) = true := by rw [zokt_eq]; decide +kernel
theorem zokt_300 : (List.range 100).all (fun i => zokt (300 + i)) = true := by rw [zokt_eq]; decide +kernel
theorem zokt_400 : (List.range 100).all (fun i => zokt (400 + i)) = true := by rw [zokt_eq]; decide +kernel
theorem zokt_500 : (List.range 100).all (fun i => zokt (500 + i)) = true := by rw [zokt_eq]; decide +kernel
theorem zokt_600 : (List.range 100).all (fun i => zokt (600 + i)) = true := by rw [zokt_eq]; decide +kernel
theorem zokt_700 : (List.range 100).all (fun i => zokt (700 + i)) = true := by rw [zokt_eq]; decide +kernel
theorem zokt_800 : (List.range 100).all (fun i => zokt (800 + i)) = true := by rw [zokt_eq]; decide +kernel
theorem zokt_900 : (List.range 100).all (fun i => zokt (900 + i)) = true := by rw [zokt_eq]; decide +kernel
theorem zokt_1000 : (List.range 100).all (fun i => zokt (1000 + i)) = true := by rw [zokt_eq]; decide +kernel
theorem zokt_1100 : (List.range 100).all (fun i => zokt (1100 + i)) = true := by rw [zokt_eq]; decide +kernel
theorem zokt_1200 : (List.range 100).all (fun i => zokt (1200 + i)) = true := by rw [zokt_eq]; decide +kernel
theorem zokt_1300 : (List.range 100).all (fun i => zokt (1300 + i)) = true := by rw [zokt_eq]; decide +kernel
theorem zokt_1400 : (List.range 79).all (fun i => zokt (1400 + i)) = true := by rw [zokt_eq]; decide +kernel
theorem zokt_ok {a : Nat} (h : a < 1479) : zokt a = true := by
  by_cases c0 : a < 100
  · have := List.all_eq_true.mp zokt_0 (a - 0) (List.mem_range.mpr (by omega))
    rwa [show 0 + (a - 0) = a by omega] at this
  · by_cases c1 : a < 200
    · have := List.all_eq_true.mp zokt_100 (a - 100) (List.mem_range.mpr (by omega))
      rwa [show 100 + (a - 100) = a by omega] at this
    · by_cases c2 : a < 300
      · have := List.all_eq_true.mp zokt_200 (a - 200) (List.mem_range.mpr (by omega))
        rwa [show 200 + (a - 200) = a by omega] at this
      · by_cases c3 : a < 400
        · have := List.all_eq_true.mp zokt_300 (a - 300) (List.mem_range.mpr (by omega))
          rwa [show 300 + (a - 300) = a by omega] at this
        · by_cases c4 : a < 500
          · have := List.all_eq_true.mp zokt_400 (a - 400) (List.mem_range.mpr (by omega))
            rwa [show 400 + (a - 400) = a by omega] at this
          · by_cases c5 : a < 600
            · have := List.all_eq_true.mp zokt_500 (a - 500) (List.mem_range.mpr (by omega))
              rwa [show 500 + (a - 500) = a by omega] at this
            · by_cases c6 : a < 700
              · have := List.all_eq_true.mp zokt_600 (a - 600) (List.mem_range.mpr (by omega))
                rwa [show 600 + (a - 600) = a by omega] at this
              · by_cases c7 : a < 800
                · have := List.all_eq_true.mp zokt_700 (a - 700) (List.mem_range.mpr (by omega))
                  rwa [show 700 + (a - 700) = a by omega] at this
                · by_cases c8 : a < 900
                  · have := List.all_eq_true.mp zokt_800 (a - 800) (List.mem_range.mpr (by omega))
                    rwa [show 800 + (a - 800) = a by omega] at this
                  · by_cases c9 : a < 1000
                    · have := List.all_eq_true.mp zokt_900 (a - 900) (List.mem_range.mpr (by omega))
                      rwa [show 900 + (a - 900) = a by omega] at this
                    · by_cases c10 : a < 1100
                      · have := List.all_eq_true.mp zokt_1000 (a - 1000) (List.mem_range.mpr (by omega))
                        rwa [show 1000 + (a - 1000) = a by omega] at this
                      · by_cases c11 : a < 1200
                        · have := List.all_eq_true.mp zokt_1100 (a - 1100) (List.mem_range.mpr (by omega))
                          rwa [show 1100 + (a - 1100) = a by omega] at this
                        · by_cases c12 : a < 1300
                          · have := List.all_eq_true.mp zokt_1200 (a - 1200) (List.mem_range.mpr (by omega))
                            rwa [show 1200 + (a - 1200) = a by omega] at this
                          · by_cases c13 : a < 1400
                            · have := List.all_eq_true.mp zokt_1300 (a - 1300) (List.mem_range.mpr (by omega))
                              rwa [show 1300 + (a - 1300) = a by omega] at this
                            · have := List.all_eq_true.mp zokt_1400 (a - 1400) (List.mem_range.mpr (by omega))
                              rwa [show 1400 + (a - 1400) = a by omega] at this
