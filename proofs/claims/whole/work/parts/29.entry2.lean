section ZN
variable {s : State} {args : Array Value} {A : Nat → Prop}
theorem zarr_int {ty : FieldType} (h : (Cond.arrayClass ty).before args s = true) (hty : ∀ C, ty ≠ .object C) : ∃ cA, ArrOfT s cA ty ∧ va_RA s cA ty := by
  obtain ⟨c, k, comp, f1, f2, f3⟩ := Cond.arrayClass_spec h
  refine ⟨c, fun N z => ⟨(fun k h => by cases h), k, f2, comp, f3⟩, ?_⟩
  cases ty with
  | object C => exact absurd rfl (hty C)
  | _ => exact f1
theorem zarr_obj {C : String} (h : (Cond.arrayOver (.object C)).before args s = true) : ∃ cA, ArrOfT s cA (.object C) ∧ va_RA s cA (.object C) := by
  obtain ⟨comp, c, k, f1, f2, f3, f4, f5⟩ := Cond.arrayOver_spec h
  exact ⟨c, fun N z => ⟨(fun k h => by cases h), k, f3, comp, f4⟩, k, comp, f3, f4, f1, f5⟩
theorem zstr_of {i : Nat} (hi : i < 31) (hs : (Jvm.Cond.and given_1 narrow_1).before args s = true) (hA : ∀ a : Nat, a < s.heap.size → ¬ A a) : ∃ q : Nat × Nat, (ztm i).eval args s none [] s = some (.ref q.1) ∧ va_O "java/lang/String" q.1 A s s.heap ∧ va_OF "java/lang/String" "coder" "B" (.int 0) q.1 A s s.heap ∧
    va_OF "java/lang/String" "value" "[B" (.ref q.2) q.1 A s s.heap ∧ va_T .byte q.2 (zTx i).length (fun k => .int (Int32.ofInt ((zTx i).getD k 0))) A s s.heap := by
  have h := List.all_eq_true.mp zTmc_all i (List.mem_range.mpr hi)
  unfold zTmc at h
  rw [Bool.and_eq_true, Bool.and_eq_true, Bool.and_eq_true, Bool.and_eq_true] at h
  obtain ⟨⟨⟨⟨h1, h2⟩, h3⟩, h4⟩, h5⟩ := h
  have hlen : (zTx i).length < 2 ^ 31 := by
    have e : (List.range 31).all (fun i => Nat.blt (zTx i).length 10) = true := by decide +kernel
    have := Nat.le_of_ble_eq_true (List.all_eq_true.mp e i (List.mem_range.mpr hi))
    omega
  obtain ⟨a, c, cA, kA, q1, q2, q3, q4, q5, q6, -⟩ := Cond.exactly_spec (args := args) (first := s) (o := none) (s := s) (idx := []) (t := ztm i) (cls := "java/lang/String") (zfk_ok h1 hs)
  obtain ⟨t, ht, hT⟩ := va_Tof (f := fun k => .int (Int32.ofInt ((zTx i).getD k 0))) (A := A) hlen (zfk_ok h3 hs) (va_eqt (zfk_ok h4 hs)) (fun j hj => va_eqt (zfk_ok (List.all_eq_true.mp h5 j (List.mem_range.mpr hj)) hs)) hA
  exact ⟨(a, t), q1, ⟨cA, q3, q5, by rw [q6]; exact q2, hA a (Array.getElem?_eq_some_iff.mp q3).1⟩, vk_OFof q1 (va_eqt (zfk_ok h2 hs)) hA, vk_OFof q1 ht hA, hT⟩
theorem zeq_eval {t u : Term} {a : Nat} (h : (Cond.eq t u).before args s = true) (hu : u.eval args s none [] s = some (.ref a)) : t.eval args s none [] s = some (.ref a) := by
  cases hv : t.eval args s none [] s with
  | none => simp [Cond.before, Cond.holds, Cond.value, hv, hu] at h
  | some w =>
    simp only [Cond.before, Cond.holds, Cond.value, hv, hu] at h
    cases w <;> simp_all
theorem zwrd_of {i : Nat} (hi : i < 33) (hs : (Jvm.Cond.and given_1 narrow_1).before args s = true) : ∃ a : Nat, (zws1 i).eval args s none [] s = some (.ref a) ∧ (Term.field (zws1 i) "java/lang/Enum" "ordinal" "I").eval args s none [] s = some (.int (Int32.ofNat i)) := by
  have h := List.all_eq_true.mp zWpc_all i (List.mem_range.mpr hi)
  unfold zWpc at h
  rw [Bool.and_eq_true, Bool.and_eq_true, Bool.and_eq_true, Bool.and_eq_true, Bool.and_eq_true] at h
  obtain ⟨⟨⟨⟨⟨h1, h2⟩, h3⟩, h4⟩, h5⟩, h6⟩ := h
  obtain ⟨a, c, cA, kA, q1, q2, q3, q4, q5, q6, -⟩ := Cond.exactly_spec (args := args) (first := s) (o := none) (s := s) (idx := []) (t := zws1 i) (cls := "CyclicLines$Word") (zfk_ok h1 hs)
  exact ⟨a, q1, va_eqt (zfk_ok h2 hs)⟩
theorem zfield_ref {t u : Term} {o n d : String} {a : Nat} (ht : t.eval args s none [] s = some (.ref a)) (hu : u.eval args s none [] s = some (.ref a)) : (Term.field t o n d).eval args s none [] s = (Term.field u o n d).eval args s none [] s := by
  simp only [Term.eval, ht, hu]
theorem zstringRef_eval {own tx : String} {k : Nat} (h : (Cond.stringRef own k tx).before args s = true) : ∃ a, (Term.string own k).eval args s none [] s = some (.ref a) := by
  cases hc : s.vm.findClass own with
  | none => simp [Cond.before, Cond.holds, Cond.value, hc] at h
  | some cur =>
    obtain ⟨k1, cf, i, a, -, -, -, -, -, he⟩ := Cond.stringRef_spec hc h
    exact ⟨a, he⟩
theorem zmem_nc {a b : Nat} (ha : a < 5) (hb : b < 5) (hab : a ≠ b) (hs : (Jvm.Cond.and given_1 narrow_1).before args s = true) : va_Nc (zExN (100 + a)) (zExN (100 + b)) s := by
  have h := List.all_eq_true.mp (List.all_eq_true.mp zNpc_all a (List.mem_range.mpr ha)) b (List.mem_range.mpr hb)
  unfold zNpc at h
  rw [Bool.or_eq_true] at h
  rcases h with h | h
  · exact absurd (Nat.eq_of_beq_eq_true h) hab
  · exact va_Nc.of (zfk_ok h hs)
end ZN
theorem zentry {p : Program} {s : State} {m : MethodId} {meth : Method} {c : Code} {b L : Nat} {xs : Nat → Int32} (C0 : lw_At p s m meth c b L xs) : ∃ K : zCx, K.b = b ∧ K.L = L ∧ K.xs = xs ∧ K.base = s.heap.size ∧ zCst K s ∧ zNcs s := by
  obtain ⟨hx, hb, hr, hml, hown, hts, hX, hbl, hlocks, hgv⟩ := id C0
  have hA : ∀ a : Nat, a < s.heap.size → ¬ (fun q : Nat => s.heap.size ≤ q) a := fun a h h2 => absurd h2 (Nat.not_le.mpr h)
  have hk : ∀ ci : Nat, ∃ q : ClassId × (Nat → Nat), ci < 11 → u_Kn s (zON ci) (zTT ci) (zNF ci) q.1 q.2 := by
    intro ci
    by_cases hci : ci < 11
    · obtain ⟨c, iS, h⟩ := u_known (C := zON ci) (T := zTT ci) (N := zNF ci) (n := zNF ci) (ws := lw_tbl) hts (fun w hw => (List.mem_filter.mp (zLay_in hci w hw)).1) (hts _ (zOi_ok hci).2.1)
      exact ⟨(c, iS), fun _ => h⟩
    · exact ⟨(0, fun _ => 0), fun h => absurd h hci⟩
  obtain ⟨kn, hkn⟩ := Classical.axiomOfChoice hk
  have hst : ∀ i : Nat, ∃ q : Nat × Nat, i < 31 → (ztm i).eval #[Value.ref b] s none [] s = some (.ref q.1) ∧ va_O "java/lang/String" q.1 (fun q : Nat => s.heap.size ≤ q) s s.heap ∧ va_OF "java/lang/String" "coder" "B" (.int 0) q.1 (fun q : Nat => s.heap.size ≤ q) s s.heap ∧
      va_OF "java/lang/String" "value" "[B" (.ref q.2) q.1 (fun q : Nat => s.heap.size ≤ q) s s.heap ∧ va_T .byte q.2 (zTx i).length (fun k => .int (Int32.ofInt ((zTx i).getD k 0))) (fun q : Nat => s.heap.size ≤ q) s s.heap := by
    intro i
    by_cases hi : i < 31
    · obtain ⟨q, h⟩ := zstr_of hi hgv hA
      exact ⟨q, fun _ => h⟩
    · exact ⟨(0, 0), fun h => absurd h hi⟩
  obtain ⟨sn, hsn⟩ := Classical.axiomOfChoice hst
  have hwd : ∀ i : Nat, ∃ a : Nat, i < 33 → (zws1 i).eval #[Value.ref b] s none [] s = some (.ref a) ∧ (Term.field (zws1 i) "java/lang/Enum" "ordinal" "I").eval #[Value.ref b] s none [] s = some (.int (Int32.ofNat i)) := by
    intro i
    by_cases hi : i < 33
    · obtain ⟨q, h⟩ := zwrd_of hi hgv
      exact ⟨q, fun _ => h⟩
    · exact ⟨0, fun h => absurd h hi⟩
  obtain ⟨wn, hwn⟩ := Classical.axiomOfChoice hwd
  obtain ⟨e1, e2, e3, e4, e5⟩ := zEw
  obtain ⟨cI, hI⟩ := zarr_int (ty := .int) (hts _ (zintb_ok e1)) (fun C h => by cases h)
  obtain ⟨cL, hLg⟩ := zarr_int (ty := .long) (hts _ (zintb_ok e2)) (fun C h => by cases h)
  obtain ⟨c32, h32⟩ := zarr_obj (hts _ (zintb_ok e3))
  obtain ⟨c33, h33⟩ := zarr_obj (hts _ (zintb_ok e4))
  obtain ⟨c34, h34⟩ := zarr_obj (hts _ (zintb_ok e5))
  obtain ⟨i1, i2, i3, i4, i5⟩ := zEw2
  obtain ⟨j1, j2, j3, j4, j5⟩ := zEw3
  obtain ⟨f1, f2, f3, f4, f5, f6, f7⟩ := zEf
  have hel : ∀ j : Nat, j < 33 → (Term.elem (.static "CyclicLines" "WORDS" "[LCyclicLines$Word;") (.int (Int32.ofNat j))).eval #[Value.ref b] s none [] s = some (.ref (wn j)) := by
    intro j hj
    have h := List.all_eq_true.mp zWpc_all j (List.mem_range.mpr hj)
    unfold zWpc at h
    rw [Bool.and_eq_true, Bool.and_eq_true, Bool.and_eq_true, Bool.and_eq_true, Bool.and_eq_true] at h
    exact zeq_eval (zfk_ok h.1.2 hgv) (hwn j hj).1
  obtain ⟨tW, htW, hT⟩ := va_Tof (f := fun j => .ref (wn j)) (N := 33) (A := fun q : Nat => s.heap.size ≤ q) (by decide) (zfk_ok f2 hgv) (va_eqt (zfk_ok f3 hgv)) hel hA
  let K : zCx := ((fun ci => (kn ci).1, fun ci => (kn ci).2), (fun t => if t = 30 then cI else if t = 31 then cL else if t = 32 then c32 else if t = 33 then c33 else c34), fun i => (sn i).1, fun i => (sn i).2, wn, tW, b, L, xs, s.heap.size)
  refine ⟨K, rfl, rfl, rfl, rfl, ⟨⟨fun ci q hq => ?_, fun k q hq => ?_⟩, fun w hw hz => va_Nw.of ?_ (hts w hw), ⟨va_AO.of (hts _ (zintb_ok e3)), va_AO.of (hts _ (zintb_ok e4)), va_AO.of (hts _ (zintb_ok e5))⟩, fun i hi => ⟨(hsn i hi).2.1, (hsn i hi).2.2.1, (hsn i hi).2.2.2.1, (hsn i hi).2.2.2.2⟩, fun q hq => ?_, fun w hw own k tx e => ?_, fun i hi => ?_, fun i k hi hk e => ?_,
    ⟨va_Zof (hts _ (zintb_ok i1)) (hts _ (zintb_ok i2)) htW hA, hT⟩, va_Zof (hts _ (zintb_ok i4)) (hts _ (zintb_ok i5)) (va_eqt (zfk_ok f4 hgv)) hA, va_Zqof (hts _ (zintb_ok j1)) (hts _ (zintb_ok j2)) (zfk_ok f5 hgv) hA,
    ⟨vx_Zqof (hts _ (zintb_ok j3)) (hts _ (zintb_ok j5)) (zfk_ok f6 hgv) hA, vx_Zqof (hts _ (zintb_ok j4)) (hts _ (zintb_ok j5)) (zfk_ok f7 hgv) hA⟩, ⟨hX, hbl, hA b hbl⟩, Nat.le_refl _⟩, fun a b ha hb hab => zmem_nc ha hb hab hgv⟩
  · have hci : ci < 11 := (List.getElem?_eq_some_iff.mp hq).1
    rw [zCl_at hci] at hq
    cases hq
    exact hkn ci hci
  · match k, hq with
    | 0, hq => cases hq; exact hI
    | 1, hq => cases hq; exact hLg
    | 2, hq => cases hq; exact h32
    | 3, hq => cases hq; exact h33
    | 4, hq => cases hq; exact h34
    | k + 5, hq => simp [zTys] at hq
  · cases w <;> first | rfl | (simp [zisNw] at hz)
  · obtain ⟨n, hn⟩ := List.getElem?_of_mem hq
    have hlt : n < zSp.length := by
      rw [← zSpc_len]
      exact (List.getElem?_eq_some_iff.mp hn).1
    have h := List.all_eq_true.mp zSpc_all (q, zSp[n]) (List.mem_of_getElem? (i := n) (by rw [List.getElem?_zip_eq_some]; exact ⟨hn, List.getElem?_eq_getElem hlt⟩))
    unfold zSpc at h
    rw [Bool.and_eq_true, Bool.and_eq_true] at h
    obtain ⟨⟨h1, h2⟩, h3⟩ := h
    have h1 := of_decide_eq_true h1
    obtain ⟨w, hw, h4⟩ := List.any_eq_true.mp h3
    split at h4
    · rename_i o i tx
      rw [Bool.and_eq_true] at h4
      have g1 := Nat.eq_of_beq_eq_true h4.1
      have g2 := of_decide_eq_true h4.2
      subst g1 g2
      exact ⟨tx, vk_R.of (hts _ hw) (zeq_eval (zfk_ok h2 hgv) (hsn _ h1).1)⟩
    · cases h4
  · subst e
    have h1 := hts _ hw
    obtain ⟨sa, hsa⟩ := zstringRef_eval h1
    exact ⟨sa, vk_R.of h1 hsa⟩
  · have h := List.all_eq_true.mp zWpc_all i (List.mem_range.mpr hi)
    unfold zWpc at h
    rw [Bool.and_eq_true, Bool.and_eq_true, Bool.and_eq_true, Bool.and_eq_true, Bool.and_eq_true] at h
    obtain ⟨⟨⟨⟨⟨h1, h2⟩, h3⟩, h4⟩, h5⟩, h6⟩ := h
    have h6 := of_decide_eq_true h6
    exact ⟨va_Zof (hts _ (zintb_ok (List.all_eq_true.mp zWls_all i (List.mem_range.mpr hi)))) (hts _ (zintb_ok i3)) (hwn i hi).1 hA, va_Oof (zfk_ok h1 hgv) (hwn i hi).1 hA, vk_OFof (hwn i hi).1 (va_eqt (zfk_ok h4 hgv)) hA, vk_OFof (hwn i hi).1 (zeq_eval (zfk_ok h3 hgv) (hsn _ h6).1) hA⟩
  · have g1 := (hwn i hi)
    have g2 := (hwn k hk)
    have e : wn i = wn k := e
    rw [e] at g1
    have g3 := zfield_ref (o := "java/lang/Enum") (n := "ordinal") (d := "I") g1.1 g2.1
    rw [g1.2, g2.2] at g3
    have g4 : Int32.ofNat i = Int32.ofNat k := Value.int.inj (Option.some.inj g3)
    have g5 := congrArg Int32.toInt g4
    rw [Int32.toInt_ofNat_of_lt (by omega), Int32.toInt_ofNat_of_lt (by omega)] at g5
    omega
