/-! ## what holds at the entry: texts, words, classes -/
def zFl : List Cond := flatC (Jvm.Cond.and given_1 narrow_1)
def zfk (k : Nat) (c : Cond) : Bool := match zFl[k]? with
  | some u => decide (u = c)
  | none => false
theorem zfk_ok {k : Nat} {c : Cond} {args : Array Value} {s : State} (h : zfk k c = true) (hs : (Jvm.Cond.and given_1 narrow_1).before args s = true) : c.before args s = true := by
  unfold zfk at h
  split at h
  · rename_i u hu
    have e := of_decide_eq_true h
    rw [← e]
    exact flat_of_before _ hs u (List.mem_of_getElem? hu)
  · cases h
def zTm : List (String × Nat × Nat) := [("CyclicLines$Word", 192, 1207), ("CyclicLines$Word", 195, 1188), ("CyclicLines$Word", 198, 1197), ("CyclicLines$Word", 201, 1217), ("CyclicLines$Word", 210, 1224), ("CyclicLines$Word", 213, 1272), ("CyclicLines$Word", 216, 1283), ("CyclicLines$Word", 219, 1294), ("CyclicLines$Word", 162, 1114), ("CyclicLines$Word", 222, 1305), ("CyclicLines$Word", 225, 1316), ("CyclicLines$Word", 228, 1325), ("CyclicLines$Word", 231, 1335), ("CyclicLines$Word", 168, 1133), ("CyclicLines$Word", 189, 1105), ("CyclicLines$Word", 207, 1257), ("CyclicLines$Word", 204, 1265), ("CyclicLines$Word", 165, 1123), ("CyclicLines$Word", 171, 1088), ("CyclicLines$Word", 174, 1143), ("CyclicLines$Word", 177, 1154), ("CyclicLines$Word", 180, 1164), ("CyclicLines$Word", 183, 1171), ("CyclicLines$Word", 186, 1098), ("CyclicLines$Word", 136, 1084), ("CyclicLines$Word", 144, 1183), ("CyclicLines$Word", 147, 1232), ("CyclicLines$Word", 150, 1237), ("CyclicLines$Word", 153, 1247), ("CyclicLines$Word", 156, 1252), ("CyclicLines$Word", 159, 1242)]
def zWp : List Nat := [55, 47, 51, 99, 125, 129, 137, 141, 133, 71, 75, 79, 59, 83, 87, 91, 95, 63, 67, 113, 105, 109, 117, 149, 145, 121, 153, 157, 161, 165, 169, 173, 177]
def zWe : List Nat := [9, 10, 11, 12, 13, 14, 15, 16, 17, 18, 19, 20, 21, 22, 23, 24, 25, 26, 27, 28, 29, 30, 31, 32, 33, 34, 35, 36, 37, 38, 39, 40, 41]
def zSp : List Nat := [1122, 1315, 1324, 1334, 1345, 1142, 1113, 1282, 1293, 1304, 1231, 1264, 1271, 1216, 1196, 1206, 1223, 1132, 1097, 1153, 1163, 1170, 1182, 1104]
def zNp : List Nat := [0, 209, 225, 241, 257, 193, 0, 226, 242, 258, 194, 210, 0, 243, 259, 195, 211, 227, 0, 260, 196, 212, 228, 244, 0]
def ztm (i : Nat) : Term := .string (zTm.getD i ("", 0, 0)).1 (zTm.getD i ("", 0, 0)).2.1
def ztv (i : Nat) : Term := .field (ztm i) "java/lang/String" "value" "[B"
def ztp (i : Nat) : Nat := (zTm.getD i ("", 0, 0)).2.2
def zTmc (i : Nat) : Bool := zfk (ztp i) (.exactly (ztm i) "java/lang/String") && zfk (ztp i + 1) (.eq (.field (ztm i) "java/lang/String" "coder" "B") (.int 0)) && zfk (ztp i + 2) (.arrayOf (ztv i) .byte) && zfk (ztp i + 3) (.eq (.length (ztv i)) (.int (Int32.ofNat (zTx i).length))) &&
  (List.range (zTx i).length).all (fun j => zfk (ztp i + 4 + j) (.eq (.elem (ztv i) (.int (Int32.ofNat j))) (.int (Int32.ofInt ((zTx i).getD j 0)))))
theorem zTmc_all : (List.range 31).all zTmc = true := by decide +kernel
def zws1 (i : Nat) : Term := .static "CyclicLines$Word" (zWnm.getD i "") "LCyclicLines$Word;"
def zWpc (i : Nat) : Bool := zfk (zWp.getD i 0) (.exactly (zws1 i) "CyclicLines$Word") && zfk (zWp.getD i 0 + 1) (.eq (.field (zws1 i) "java/lang/Enum" "ordinal" "I") (.int (Int32.ofNat i))) &&
  zfk (zWp.getD i 0 + 2) (.eq (.field (zws1 i) "CyclicLines$Word" "written" "Ljava/lang/String;") (ztm (zWtx i).toNat)) && zfk (zWp.getD i 0 + 3) (.eq (.field (zws1 i) "CyclicLines$Word" "fact" "I") (.int (Int32.ofInt (zWfc i)))) &&
  zfk (zWe.getD i 0) (.eq (.elem (.static "CyclicLines" "WORDS" "[LCyclicLines$Word;") (.int (Int32.ofNat i))) (zws1 i)) && decide ((zWtx i).toNat < 31)
theorem zWpc_all : (List.range 33).all zWpc = true := by decide +kernel
def zWls (i : Nat) : Bool := lw_tbl.any (fun u => decide (u = .laysStatic "CyclicLines$Word" (zWnm.getD i "") "LCyclicLines$Word;"))
theorem zWls_all : (List.range 33).all zWls = true := by decide +kernel
def zSpc (q : Nat × Nat × Nat) (k : Nat) : Bool := decide (q.2.2 < 31) && zfk k (.eq (.string (zcn q.1) q.2.1) (ztm q.2.2)) && lw_tbl.any (fun w => match w with
  | .stringRef o i _ => Nat.beq i q.2.1 && decide (o = zcn q.1)
  | _ => false)
theorem zSpc_all : (List.zip zSL zSp).all (fun e => zSpc e.1 e.2) = true := by decide +kernel
theorem zSpc_len : zSL.length = zSp.length := by decide +kernel
def zNpc (a b : Nat) : Bool := Nat.beq a b || zfk (zNp.getD (5 * a + b) 0) (.not (.castable (zExN (100 + a)) (zExN (100 + b))))
theorem zNpc_all : (List.range 5).all (fun a => (List.range 5).all (fun b => zNpc a b)) = true := by decide +kernel
def zintb (w : Cond) : Bool := lw_tbl.any (fun u => decide (u = w))
theorem zintb_ok {w : Cond} (h : zintb w = true) : w ∈ lw_tbl := by
  obtain ⟨u, hu, e⟩ := List.any_eq_true.mp h
  have e := of_decide_eq_true e
  rw [← e]
  exact hu
theorem zEw : zintb (.arrayClass .int) = true ∧ zintb (.arrayClass .long) = true ∧ zintb (.arrayOver (.object "CyclicLines$Line")) = true ∧ zintb (.arrayOver (.object "CyclicLines$World")) = true ∧ zintb (.arrayOver (.object "CyclicLines$Word")) = true := by decide +kernel
theorem zEw2 : zintb (.laysStatic "CyclicLines" "WORDS" "[LCyclicLines$Word;") = true ∧ zintb (.initialized "CyclicLines") = true ∧ zintb (.initialized "CyclicLines$Word") = true ∧ zintb (.laysStatic "java/lang/String" "COMPACT_STRINGS" "Z") = true ∧ zintb (.initialized "java/lang/String") = true := by decide +kernel
theorem zEw3 : zintb (.laysStatic "jdk/internal/util/Preconditions" "SIOOBE_FORMATTER" "Ljava/util/function/BiFunction;") = true ∧ zintb (.initialized "jdk/internal/util/Preconditions") = true ∧ zintb (.laysStatic Bundle.tN "UNASSIGNED_STACK" Bundle.steD) = true ∧ zintb (.laysStatic Bundle.tN "SUPPRESSED_SENTINEL" Bundle.listD) = true ∧ zintb (.initialized Bundle.tN) = true := by decide +kernel
theorem zEf : zfk 4 (.isRef (.static "CyclicLines" "WORDS" "[LCyclicLines$Word;")) = true ∧ zfk 6 (.arrayOf (.static "CyclicLines" "WORDS" "[LCyclicLines$Word;") (.object "CyclicLines$Word")) = true ∧ zfk 7 (.eq (.length (.static "CyclicLines" "WORDS" "[LCyclicLines$Word;")) (.int 33)) = true ∧ zfk 42 (.eq (.static "java/lang/String" "COMPACT_STRINGS" "Z") (.int 1)) = true ∧
  zfk 43 (.isRef (.static "jdk/internal/util/Preconditions" "SIOOBE_FORMATTER" "Ljava/util/function/BiFunction;")) = true ∧ zfk 103 (.isRef (.static Bundle.tN "UNASSIGNED_STACK" Bundle.steD)) = true ∧ zfk 104 (.isRef (.static Bundle.tN "SUPPRESSED_SENTINEL" Bundle.listD)) = true := by decide +kernel
