/-! ## where the law's loop begins -/
def zBf : Int → Int → Int := zups zC_mod_L zXF21
def zBl : List (Int × Int × Int) := zC_mod_L ++ zXL21
theorem zBe (a k : Int) : zBf a k = zlook zBl a k := by
  unfold zBf zBl
  rw [zXe21, ← zups_app, zups_look]
theorem zlook_no : ∀ (l : List (Int × Int × Int)) (a k : Int), (l.all fun e => decide (e.1 ≠ a)) = true → zlook l a k = 0 := by
  intro l
  induction l with
  | nil => intro a k _; rfl
  | cons e l ih =>
    intro a k h
    have h2 := (List.all_cons (l := l) ▸ h)
    rw [Bool.and_eq_true] at h2
    have h1 := of_decide_eq_true h2.1
    show (if a = e.1 ∧ k = e.2.1 then e.2.2 else zlook l a k) = 0
    rw [if_neg (fun z => h1 z.1.symm)]
    exact ih a k h2.2
theorem zB1465 {j : Int} (h : 1710 ≤ j) : zBf 1465 j = 0 := by
  have e : zBf 1465 j = zup (zup (zup zXF21 1464 12 (-1)) 1465 1 (-1)) 1465 9 1 1465 j := rfl
  rw [e, zup_nk (by omega), zup_nk (by omega), zup_na (by decide), zXe21, zups_look]
  exact zlook_no _ _ _ (by decide +kernel)
theorem zB1466 {j : Int} : zBf 1466 j = 0 := by
  rw [zBe]
  exact zlook_no _ _ _ (by decide +kernel)
theorem zB_0 : ZR 0 zBf zBf := by

  have e1465_0 : zBf 1465 0 = 0 := by
    rw [zBe]
    decide +kernel
  have e1465_1 : zBf 1465 1 = -1 := by
    rw [zBe]
    decide +kernel
  have e1465_3 : zBf 1465 3 = 0 := by
    rw [zBe]
    decide +kernel
  have e1465_4 : zBf 1465 4 = 0 := by
    rw [zBe]
    decide +kernel
  have e1465_5 : zBf 1465 5 = 0 := by
    rw [zBe]
    decide +kernel
  have e1465_6 : zBf 1465 6 = 0 := by
    rw [zBe]
    decide +kernel
  have e1465_7 : zBf 1465 7 = 0 := by
    rw [zBe]
    decide +kernel
  have e1465_8 : zBf 1465 8 = 0 := by
    rw [zBe]
    decide +kernel
  have e1465_9 : zBf 1465 9 = 1 := by
    rw [zBe]
    decide +kernel
  have e23_4 : zBf 23 4 = 0 := by
    rw [zBe]
    decide +kernel
  have e23_5 : zBf 23 5 = 0 := by
    rw [zBe]
    decide +kernel
  have e23_6 : zBf 23 6 = 0 := by
    rw [zBe]
    decide +kernel
  have e23_7 : zBf 23 7 = 0 := by
    rw [zBe]
    decide +kernel
  have e23_8 : zBf 23 8 = 0 := by
    rw [zBe]
    decide +kernel
  have e23_9 : zBf 23 9 = 0 := by
    rw [zBe]
    decide +kernel
  have e23_10 : zBf 23 10 = 1 := by
    rw [zBe]
    decide +kernel
  have e43_2 : zBf 43 2 = 0 := by
    rw [zBe]
    decide +kernel
  have e43_1 : zBf 43 1 = 0 := by
    rw [zBe]
    decide +kernel
  have e2_6 : zBf 2 6 = -1 := by
    rw [zBe]
    decide +kernel
  have e2_7 : zBf 2 7 = 0 := by
    rw [zBe]
    decide +kernel
  have e0_12 : zBf 0 12 = 0 := by
    rw [zBe]
    decide +kernel
  have e1464_8 : zBf 1464 8 = 0 := by
    rw [zBe]
    decide +kernel
  have e0_14 : zBf 0 14 = 0 := by
    rw [zBe]
    decide +kernel
  have e1464_3 : zBf 1464 3 = 0 := by
    rw [zBe]
    decide +kernel
  have e1464_6 : zBf 1464 6 = 0 := by
    rw [zBe]
    decide +kernel
  have e0_16 : zBf 0 16 = 0 := by
    rw [zBe]
    decide +kernel
  have e0_15 : zBf 0 15 = 0 := by
    rw [zBe]
    decide +kernel
  have e0_13 : zBf 0 13 = -1 := by
    rw [zBe]
    decide +kernel
  have e1464_12 : zBf 1464 12 = -1 := by
    rw [zBe]
    decide +kernel
  have e1464_15 : zBf 1464 15 = 0 := by
    rw [zBe]
    decide +kernel
  have e1464_16 : zBf 1464 16 = 0 := by
    rw [zBe]
    decide +kernel
  have e1464_17 : zBf 1464 17 = 0 := by
    rw [zBe]
    decide +kernel
  have et : zTn (zBf 1465) = 0 := by
    unfold zTn
    rw [e1465_1]
    rfl
  have ep : pLaw (zTu (zBf 1465)) (zTn (zBf 1465)) = (true, 0, []) := by
    rw [et, pLaw_0]
  refine ⟨Int.le_refl 0, ⟨⟨?_, ?_, ?_, ?_, ?_, ?_, ?_, ?_, ?_, ?_, fun ago c a0 a1 => ?_⟩, fun o o0 o1 => ?_, ⟨?_, ?_, ⟨?_, ?_, ?_, ?_⟩, fun o o0 o1 => ?_⟩, ?_, ?_⟩, ⟨fun j hj => zB1465 hj, zBf 1465, [], fun _ _ => rfl, ⟨?_, ?_, ?_⟩, ?_, ?_, Or.inr ⟨?_, rfl⟩, ?_, ?_, ?_, fun j j0 j1 => ?_⟩, ⟨?_, ?_, ?_, fun k k0 k1 => ?_⟩, ⟨⟨?_, fun j _ => zB1466⟩, Or.inl e1464_3⟩, ⟨?_, ?_, ?_, ?_, ?_, fun i i0 i1 => ?_⟩, ?_, ?_⟩
  · rw [e23_4, e1465_3]
  · rw [e23_5, e1465_0]
  · rw [e23_6, e1465_4]
  · rw [e23_7, e1465_5]
  · rw [e23_8, e1465_6]
  · rw [e23_9, e1465_7]
  · rw [e23_10, e1465_9]
  · show zBf 43 2 = zBf 1465 8
    rw [e43_2, e1465_8]
  · show 0 ≤ zBf 43 1
    rw [e43_1]
    decide
  · show zBf 43 1 < 60
    rw [e43_1]
    decide
  · rw [e1465_8] at a1
    omega
  · rw [e1465_3] at o1
    omega
  · rw [e1465_3]
    decide
  · rw [e1465_3]
    decide
  · rw [e1465_4]
    decide
  · rw [e1465_5]
    decide
  · rw [e1465_6]
    decide
  · rw [e1465_8]
    decide
  · rw [e1465_3] at o1
    omega
  · rw [e1465_0]
    decide
  · rw [e1465_7]
    decide
  · rw [ep]
  · rw [et]
    decide
  · rw [et]
    decide
  · rw [ep]
  · rw [e2_6, e1465_1]
  · exact e2_6
  · trivial
  · rw [e2_7]
    decide
  · rw [e2_7]
    decide
  · have j1 : j < 0 := j1
    omega
  · rw [e0_12, e1464_8]
  · rw [e1464_8]
    decide
  · rw [e1464_8]
    decide
  · rw [e1464_8] at k1
    omega
  · rw [e0_14, e1464_3]
  · rw [e1464_6]
    decide
  · rw [e1464_6]
    decide
  · rw [e0_16, e1464_6]
  · rw [e0_15]
    decide
  · rw [e0_15]
    decide
  · rw [e1464_6] at i1
    omega
  · rw [e0_13, e1464_12]
  · refine ⟨?_, ?_, ?_⟩
    · exact Or.inl e1464_15
    · exact Or.inl e1464_16
    · exact Or.inl e1464_17

