theorem zST_ok {a : Nat} (h : a < 1479) : 10 ≤ zST a ∧ zST a < 35 ∧ (zST a < 21 ∨ 30 ≤ zST a) ∧ 0 ≤ zYT a ∧ zYT a < 65536 ∧ (zST a = 31 ↔ a = 1478) ∧ (zST a = 34 ↔ a = 310) := by
  have := zokt_ok h
  unfold zokt at this
  rw [Bool.and_eq_true, Bool.and_eq_true, Bool.and_eq_true, Bool.and_eq_true, Bool.and_eq_true] at this
  obtain ⟨⟨⟨⟨⟨a1, a2⟩, a3⟩, a4⟩, a5⟩, a6⟩ := this
  rw [Bool.or_eq_true] at a3
  have b4 := of_decide_eq_true a4
  have b5 := eq_of_beq a5
  have b6 := eq_of_beq a6
  refine ⟨Nat.le_of_ble_eq_true a1, Nat.le_of_ble_eq_true a2, ?_, b4.1, b4.2, ⟨fun e => ?_, fun e => ?_⟩, ⟨fun e => ?_, fun e => ?_⟩⟩
  · rcases a3 with h3 | h3
    · exact Or.inl (Nat.le_of_ble_eq_true h3)
    · exact Or.inr (Nat.le_of_ble_eq_true h3)
  · apply Nat.eq_of_beq_eq_true; rw [← b5, e]; rfl
  · apply Nat.eq_of_beq_eq_true; rw [b5, e]; exact Nat.beq_refl _
  · apply Nat.eq_of_beq_eq_true; rw [← b6, e]; rfl
  · apply Nat.eq_of_beq_eq_true; rw [b6, e]; exact Nat.beq_refl _
theorem zfd_ok {a k t : Nat} {v : zV} (h : a < 1479) (ht : zST a = t) (ht3 : t < 30) (hk : k < zNF (t - 10)) (hv : zfd (t - 10) k a (zYT a) = some v) : 10 ≤ v.1 ∧ v.1 < 35 ∧ 0 ≤ v.2.1 ∧ v.2.1.toNat < 1479 ∧ zST v.2.1.toNat = v.1 ∧ v.2.2 = zYT v.2.1.toNat := by
  subst ht
  have := zokf_ok h
  unfold zokf at this
  simp only [Bool.or_eq_true, Nat.ble_eq] at this
  rcases this with h1 | h1
  · omega
  · have h2 := List.all_eq_true.mp h1 k (List.mem_range.mpr hk)
    simp only [hv, Bool.and_eq_true, decide_eq_true_eq, Nat.ble_eq, Nat.blt_eq, Nat.beq_eq_true_eq] at h2
    obtain ⟨⟨⟨⟨⟨a1, a2⟩, a3⟩, a4⟩, a5⟩, a6⟩ := h2
    exact ⟨a1, a2, a3, a4, Nat.eq_of_beq_eq_true a5, a6⟩
theorem zrl_ok {a i : Nat} (h : a < 1479) (ht : zST a = 32 ∨ zST a = 33) (hi : i < (zYT a).toNat) : 0 ≤ (zrl (zST a) a i).2.1 ∧ (zrl (zST a) a i).2.1.toNat < 1479 ∧ zST (zrl (zST a) a i).2.1.toNat = (zrl (zST a) a i).1 ∧ zYT (zrl (zST a) a i).2.1.toNat = 0 := by
  have := zokr_ok h
  unfold zokr at this
  simp only [Bool.or_eq_true, beq_iff_eq] at this
  rcases this with h1 | h1
  · simp only [Bool.or_eq_false_iff] at h1
    rcases ht with h2 | h2 <;> rw [h2] at h1 <;> simp at h1
  · have h2 := List.all_eq_true.mp h1 i (List.mem_range.mpr hi)
    simp only [Bool.and_eq_true, decide_eq_true_eq, Nat.blt_eq, Nat.beq_eq_true_eq] at h2
    exact ⟨h2.1.1.2, h2.1.1.1, Nat.eq_of_beq_eq_true h2.1.2, h2.2⟩
