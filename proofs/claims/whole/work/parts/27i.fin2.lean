/-! ## all objects stand -/
theorem zflgL_ok {a : Nat} (h : a < 1479) : zflgL zGI a = true := by
  by_cases h1 : a < 300
  · have := List.all_eq_true.mp zflgL_0 (a - 0) (List.mem_range.mpr (by omega))
    rwa [show 0 + (a - 0) = a by omega] at this
  · by_cases h2 : a < 600
    · have := List.all_eq_true.mp zflgL_3 (a - 300) (List.mem_range.mpr (by omega))
      rwa [show 300 + (a - 300) = a by omega] at this
    · by_cases h3 : a < 900
      · have := List.all_eq_true.mp zflgL_6 (a - 600) (List.mem_range.mpr (by omega))
        rwa [show 600 + (a - 600) = a by omega] at this
      · by_cases h4 : a < 1200
        · have := List.all_eq_true.mp zflgL_9 (a - 900) (List.mem_range.mpr (by omega))
          rwa [show 900 + (a - 900) = a by omega] at this
        · have := List.all_eq_true.mp zflgL_12 (a - 1200) (List.mem_range.mpr (by omega))
          rwa [show 1200 + (a - 1200) = a by omega] at this
/-- which references are set -/
def zflg (σ : zS) (a : Nat) : Bool := match Nat.blt (zST a) 30 with
  | true => (List.range (zNF (zST a - 10))).all (fun k => match zfd (zST a - 10) k a (zYT a) with
    | none => true
    | some _ => σ.2.2.2.2.2 a k)
  | false => match Nat.beq (zST a) 32 || Nat.beq (zST a) 33 with
    | true => (List.range (zYT a).toNat).all (fun i => σ.2.2.2.2.2 a i)
    | false => true
theorem zany_set {L : List (Int × Int)} {g : Int → Int → Bool} {a k : Int} (hs : zsetB L g) (h : L.any (fun e => decide (e.1 = a) && decide (e.2 = k)) = true) : g a k = true := by
  obtain ⟨e, he, h1⟩ := List.any_eq_true.mp h
  rw [Bool.and_eq_true] at h1
  have e1 := of_decide_eq_true h1.1
  have e2 := of_decide_eq_true h1.2
  rw [← e1, ← e2]
  exact hs e he
theorem zflg_ok {a : Nat} (h : a < 1479) : zflg zBeg3 a = true := by
  have h1 := zflgL_ok h
  unfold zflgL at h1
  unfold zflg
  split
  · rename_i hb
    rw [hb] at h1
    apply List.all_eq_true.mpr
    intro k hk
    have h2 := List.all_eq_true.mp h1 k hk
    cases hv : zfd (zST a - 10) k a (zYT a) with
    | none => rfl
    | some v =>
      rw [hv] at h2
      exact zany_set zGI_set h2
  · rename_i hb
    rw [hb] at h1
    dsimp only at h1
    split
    · rename_i hb2
      rw [hb2] at h1
      apply List.all_eq_true.mpr
      intro k hk
      exact zany_set zGI_set (List.all_eq_true.mp h1 k hk)
    · rfl
theorem zarrV_congr {cA : ClassId} {n : Nat} {f g : Nat → Value} (h : ∀ i, i < n → f i = g i) : arrV cA n f = arrV cA n g := by
  unfold arrV
  congr 1
  congr 1
  funext j
  exact h j.val j.isLt
/-- all objects stand -/
theorem zPic_up {K : zCx} {ad : Nat → Nat} {σ : zS} {H : Heap} (hP : zPic K false ad σ H) (hn : σ.2.2.2.2.1 = 1479) (hf : ∀ a, a < 1479 → zflg σ a = true) : zPic K true ad σ H := by
  obtain ⟨h1, h2, h3, h4, h5, h6, h7, h8, h9⟩ := hP
  refine ⟨fun k q hk => ?_, ⟨fun i j p q hi hj e => ?_, fun k q hk => ?_⟩, h3, h4, h5, fun _ => hn, h7, h8, h9⟩
  · have hlt : k < σ.2.2.2.2.1 := by
      have := (List.getElem?_eq_some_iff.mp hk).1
      rwa [zWS_len] at this
    rw [zWS_at hlt] at hk
    cases hk
    have hF := h1 k _ (zWS_at hlt)
    have hz := zST_ok (show k < 1479 by omega)
    have hfl := hf k (by omega)
    unfold zflg at hfl
    by_cases c1 : zST k < 30
    · have hb : Nat.blt (zST k) 30 = true := Nat.ble_eq.mpr c1
      rw [hb] at hfl
      have e : zent K true ad σ k = zent K false ad σ k := by
        rw [zent_o rfl c1, zent_o rfl c1]
        congr 2
        apply List.map_congr_left
        intro k' hk'
        have := List.all_eq_true.mp hfl k' hk'
        unfold zfv
        cases hv : zfd (zST k - 10) k' k (zYT k) with
        | none => rfl
        | some v =>
          rw [hv] at this
          dsimp only at this ⊢
          rw [this]
          rfl
      rw [e]
      exact hF
    · by_cases c2 : zST k = 30
      · rw [zent_i c2]
        rw [zent_i c2] at hF
        exact hF
      · by_cases c3 : zST k = 31
        · rw [zent_l c3]
          rw [zent_l c3] at hF
          exact hF
        · by_cases c4 : zST k = 34
          · rw [zent_w c4]
            rw [zent_w c4] at hF
            exact hF
          · have c5 : zST k = 32 ∨ zST k = 33 := by omega
            have hb : Nat.blt (zST k) 30 = false := by
              cases hb : Nat.blt (zST k) 30 with
              | false => rfl
              | true => exact absurd (Nat.ble_eq.mp hb) (by omega)
            have hb2 : (Nat.beq (zST k) 32 || Nat.beq (zST k) 33) = true := by
              rcases c5 with c5 | c5 <;> rw [c5] <;> rfl
            rw [hb, hb2] at hfl
            rw [zent_r c5]
            rw [zent_r c5] at hF
            have hF : H[ad k]? = some (arrV (K.cA (zST k)) (zYT k).toNat (fun i => va_rf (zrw K false ad σ k i))) := hF
            show H[ad k]? = some (arrV (K.cA (zST k)) (zYT k).toNat (fun i => va_rf (zrw K true ad σ k i)))
            rw [hF]
            congr 1
            apply zarrV_congr
            intro i hi
            have hb4 := List.all_eq_true.mp hfl i (List.mem_range.mpr hi)
            unfold zrw
            rw [hb4]
            rfl
  · have hi1 : i < σ.2.2.2.2.1 := by
      have := (List.getElem?_eq_some_iff.mp hi).1
      rwa [zWS_len] at this
    have hj1 : j < σ.2.2.2.2.1 := by
      have := (List.getElem?_eq_some_iff.mp hj).1
      rwa [zWS_len] at this
    rw [zWS_at hi1] at hi
    rw [zWS_at hj1] at hj
    cases hi
    cases hj
    exact h2.1 i j _ _ (zWS_at hi1) (zWS_at hj1) e
  · have hk1 : k < σ.2.2.2.2.1 := by
      have := (List.getElem?_eq_some_iff.mp hk).1
      rwa [zWS_len] at this
    rw [zWS_at hk1] at hk
    cases hk
    have h9 : K.A (ad k) := h2.2 k (ad k, zent K false ad σ k) (zWS_at hk1)
    exact h9
