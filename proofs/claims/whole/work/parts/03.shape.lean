/-! ## classes and fields -/
theorem zby_places {ws : List Cond} (ps : List Nat) (h : (ps.map (fun i => tables_1[i]?)) = ws.map some) (hg : ws.all goodWord = true) : ∀ w ∈ ws, w ∈ tables_1 ∧ goodWord w = true := by
  intro w hw
  have h1 : some w ∈ ps.map (fun i => tables_1[i]?) := by rw [h]; exact List.mem_map.mpr ⟨w, hw, rfl⟩
  obtain ⟨i, -, hi⟩ := List.mem_map.mp h1
  exact ⟨List.mem_of_getElem? hi, List.all_eq_true.mp hg w hw⟩
def zT0 : u_T := fun k => match k with
  | 0 => ("CyclicLines$Air", "kinds", "[I", true)
  | 1 => ("CyclicLines$Air", "serials", "[I", true)
  | 2 => ("CyclicLines$Air", "lengths", "[I", true)
  | 3 => ("CyclicLines$Air", "numbers", "[I", true)
  | _ => ("CyclicLines$Air", "bads", "[I", true)
def zY0 : Nat → FieldType := fun k => match k with
  | 0 => .array .int
  | 1 => .array .int
  | 2 => .array .int
  | 3 => .array .int
  | _ => .array .int
theorem zYok0 : ∀ k, k < 5 → parseFieldDescriptor (zT0 k).2.2.1 = some (zY0 k) := by decide +kernel
theorem zNm0 : ∀ a, a < 5 → ∀ b, b < 5 → a ≠ b → (zT0 a).2.1 ≠ (zT0 b).2.1 := by decide +kernel
def zT1 : u_T := fun k => match k with
  | 0 => ("CyclicLines$Journal", "cells", "[I", true)
  | 1 => ("CyclicLines$Journal", "following", "I", false)
  | _ => ("CyclicLines$Journal", "size", "I", false)
def zY1 : Nat → FieldType := fun k => match k with
  | 0 => .array .int
  | 1 => .int
  | _ => .int
theorem zYok1 : ∀ k, k < 3 → parseFieldDescriptor (zT1 k).2.2.1 = some (zY1 k) := by decide +kernel
theorem zNm1 : ∀ a, a < 3 → ∀ b, b < 3 → a ≠ b → (zT1 a).2.1 ≠ (zT1 b).2.1 := by decide +kernel
def zT2 : u_T := fun k => match k with
  | 0 => ("CyclicLines$Law", "kinds", "[I", true)
  | 1 => ("CyclicLines$Law", "sums", "[I", true)
  | 2 => ("CyclicLines$Law", "begins", "[I", true)
  | 3 => ("CyclicLines$Law", "ends", "[I", true)
  | 4 => ("CyclicLines$Law", "code", "[I", true)
  | 5 => ("CyclicLines$Law", "stack", "[I", true)
  | 6 => ("CyclicLines$Law", "size", "I", false)
  | _ => ("CyclicLines$Law", "used", "I", false)
def zY2 : Nat → FieldType := fun k => match k with
  | 0 => .array .int
  | 1 => .array .int
  | 2 => .array .int
  | 3 => .array .int
  | 4 => .array .int
  | 5 => .array .int
  | 6 => .int
  | _ => .int
theorem zYok2 : ∀ k, k < 8 → parseFieldDescriptor (zT2 k).2.2.1 = some (zY2 k) := by decide +kernel
theorem zNm2 : ∀ a, a < 8 → ∀ b, b < 8 → a ≠ b → (zT2 a).2.1 ≠ (zT2 b).2.1 := by decide +kernel
def zT3 : u_T := fun k => match k with
  | 0 => ("CyclicLines$Line", "queue", "LCyclicLines$Units;", true)
  | 1 => ("CyclicLines$Line", "back", "LCyclicLines$Units;", true)
  | 2 => ("CyclicLines$Line", "air", "LCyclicLines$Air;", true)
  | 3 => ("CyclicLines$Line", "replies", "[I", true)
  | 4 => ("CyclicLines$Line", "state", "I", false)
  | 5 => ("CyclicLines$Line", "noise", "I", false)
  | 6 => ("CyclicLines$Line", "delay", "I", false)
  | 7 => ("CyclicLines$Line", "unitsMost", "I", false)
  | 8 => ("CyclicLines$Line", "octetsMost", "I", false)
  | 9 => ("CyclicLines$Line", "limit", "I", false)
  | 10 => ("CyclicLines$Line", "hand", "I", false)
  | 11 => ("CyclicLines$Line", "forced", "Z", false)
  | 12 => ("CyclicLines$Line", "next", "I", false)
  | 13 => ("CyclicLines$Line", "expect", "I", false)
  | 14 => ("CyclicLines$Line", "bucket", "I", false)
  | 15 => ("CyclicLines$Line", "good", "I", false)
  | 16 => ("CyclicLines$Line", "proved", "I", false)
  | 17 => ("CyclicLines$Line", "bad", "I", false)
  | _ => ("CyclicLines$Line", "tries", "I", false)
def zY3 : Nat → FieldType := fun k => match k with
  | 0 => .object "CyclicLines$Units"
  | 1 => .object "CyclicLines$Units"
  | 2 => .object "CyclicLines$Air"
  | 3 => .array .int
  | 4 => .int
  | 5 => .int
  | 6 => .int
  | 7 => .int
  | 8 => .int
  | 9 => .int
  | 10 => .int
  | 11 => .boolean
  | 12 => .int
  | 13 => .int
  | 14 => .int
  | 15 => .int
  | 16 => .int
  | 17 => .int
  | _ => .int
theorem zYok3 : ∀ k, k < 19 → parseFieldDescriptor (zT3 k).2.2.1 = some (zY3 k) := by decide +kernel
theorem zNm3 : ∀ a, a < 19 → ∀ b, b < 19 → a ≠ b → (zT3 a).2.1 ≠ (zT3 b).2.1 := by decide +kernel
def zT4 : u_T := fun k => match k with
  | 0 => ("CyclicLines$Period", "ticks", "[I", true)
  | 1 => ("CyclicLines$Period", "bads", "[I", true)
  | 2 => ("CyclicLines$Period", "wrongs", "[I", true)
  | _ => ("CyclicLines$Period", "size", "I", false)
def zY4 : Nat → FieldType := fun k => match k with
  | 0 => .array .int
  | 1 => .array .int
  | 2 => .array .int
  | _ => .int
theorem zYok4 : ∀ k, k < 4 → parseFieldDescriptor (zT4 k).2.2.1 = some (zY4 k) := by decide +kernel
theorem zNm4 : ∀ a, a < 4 → ∀ b, b < 4 → a ≠ b → (zT4 a).2.1 ≠ (zT4 b).2.1 := by decide +kernel
def zT5 : u_T := fun k => match k with
  | 0 => ("CyclicLines$Text", "words", "[LCyclicLines$Word;", true)
  | 1 => ("CyclicLines$Text", "begins", "[I", true)
  | 2 => ("CyclicLines$Text", "values", "[I", true)
  | 3 => ("CyclicLines$Text", "size", "I", false)
  | 4 => ("CyclicLines$Text", "place", "I", false)
  | _ => ("CyclicLines$Text", "wrongAt", "I", false)
def zY5 : Nat → FieldType := fun k => match k with
  | 0 => .array (.object "CyclicLines$Word")
  | 1 => .array .int
  | 2 => .array .int
  | 3 => .int
  | 4 => .int
  | _ => .int
theorem zYok5 : ∀ k, k < 6 → parseFieldDescriptor (zT5 k).2.2.1 = some (zY5 k) := by decide +kernel
theorem zNm5 : ∀ a, a < 6 → ∀ b, b < 6 → a ≠ b → (zT5 a).2.1 ≠ (zT5 b).2.1 := by decide +kernel
def zT6 : u_T := fun k => match k with
  | 0 => ("CyclicLines$Units", "serials", "[I", true)
  | 1 => ("CyclicLines$Units", "lengths", "[I", true)
  | 2 => ("CyclicLines$Units", "numbers", "[I", true)
  | 3 => ("CyclicLines$Units", "sent", "[I", true)
  | _ => ("CyclicLines$Units", "size", "I", false)
def zY6 : Nat → FieldType := fun k => match k with
  | 0 => .array .int
  | 1 => .array .int
  | 2 => .array .int
  | 3 => .array .int
  | _ => .int
theorem zYok6 : ∀ k, k < 5 → parseFieldDescriptor (zT6 k).2.2.1 = some (zY6 k) := by decide +kernel
theorem zNm6 : ∀ a, a < 5 → ∀ b, b < 5 → a ≠ b → (zT6 a).2.1 ≠ (zT6 b).2.1 := by decide +kernel
def zT7 : u_T := fun k => match k with
  | 0 => ("CyclicLines$Ways", "lengths", "[I", true)
  | 1 => ("CyclicLines$Ways", "chosen", "[I", true)
  | 2 => ("CyclicLines$Ways", "sums", "[I", true)
  | 3 => ("CyclicLines$Ways", "partner", "[I", true)
  | 4 => ("CyclicLines$Ways", "bestPartner", "[I", true)
  | 5 => ("CyclicLines$Ways", "units", "I", false)
  | _ => ("CyclicLines$Ways", "greatest", "I", false)
def zY7 : Nat → FieldType := fun k => match k with
  | 0 => .array .int
  | 1 => .array .int
  | 2 => .array .int
  | 3 => .array .int
  | 4 => .array .int
  | 5 => .int
  | _ => .int
theorem zYok7 : ∀ k, k < 7 → parseFieldDescriptor (zT7 k).2.2.1 = some (zY7 k) := by decide +kernel
theorem zNm7 : ∀ a, a < 7 → ∀ b, b < 7 → a ≠ b → (zT7 a).2.1 ≠ (zT7 b).2.1 := by decide +kernel
def zT8 : u_T := fun k => match k with
  | 0 => ("CyclicLines$World", "lines", "[LCyclicLines$Line;", true)
  | 1 => ("CyclicLines$World", "spare", "LCyclicLines$Line;", true)
  | 2 => ("CyclicLines$World", "journal", "LCyclicLines$Journal;", true)
  | 3 => ("CyclicLines$World", "facts", "[I", true)
  | 4 => ("CyclicLines$World", "size", "I", false)
  | 5 => ("CyclicLines$World", "texts", "I", false)
  | 6 => ("CyclicLines$World", "tick", "I", false)
  | 7 => ("CyclicLines$World", "taken", "I", false)
  | 8 => ("CyclicLines$World", "worth", "I", false)
  | 9 => ("CyclicLines$World", "told", "I", false)
  | _ => ("CyclicLines$World", "seedNow", "I", false)
def zY8 : Nat → FieldType := fun k => match k with
  | 0 => .array (.object "CyclicLines$Line")
  | 1 => .object "CyclicLines$Line"
  | 2 => .object "CyclicLines$Journal"
  | 3 => .array .int
  | 4 => .int
  | 5 => .int
  | 6 => .int
  | 7 => .int
  | 8 => .int
  | 9 => .int
  | _ => .int
theorem zYok8 : ∀ k, k < 11 → parseFieldDescriptor (zT8 k).2.2.1 = some (zY8 k) := by decide +kernel
theorem zNm8 : ∀ a, a < 11 → ∀ b, b < 11 → a ≠ b → (zT8 a).2.1 ≠ (zT8 b).2.1 := by decide +kernel
def zT9 : u_T := fun k => match k with
  | 0 => ("CyclicLines", "tape", "[I", true)
  | 1 => ("CyclicLines", "lawNow", "LCyclicLines$Law;", true)
  | 2 => ("CyclicLines", "lawRead", "LCyclicLines$Law;", true)
  | 3 => ("CyclicLines", "lawKept", "LCyclicLines$Law;", true)
  | 4 => ("CyclicLines", "now", "LCyclicLines$World;", true)
  | 5 => ("CyclicLines", "tried", "LCyclicLines$World;", true)
  | 6 => ("CyclicLines", "kept", "LCyclicLines$World;", true)
  | 7 => ("CyclicLines", "remembered", "[LCyclicLines$World;", true)
  | 8 => ("CyclicLines", "text", "LCyclicLines$Text;", true)
  | 9 => ("CyclicLines", "rows", "LCyclicLines$Period;", true)
  | 10 => ("CyclicLines", "ways", "LCyclicLines$Ways;", true)
  | 11 => ("CyclicLines", "shares", "[I", true)
  | 12 => ("CyclicLines", "tapeSize", "I", false)
  | 13 => ("CyclicLines", "wrongAt", "I", false)
  | 14 => ("CyclicLines", "hasImage", "Z", false)
  | 15 => ("CyclicLines", "latestAct", "I", false)
  | _ => ("CyclicLines", "acts", "I", false)
def zY9 : Nat → FieldType := fun k => match k with
  | 0 => .array .int
  | 1 => .object "CyclicLines$Law"
  | 2 => .object "CyclicLines$Law"
  | 3 => .object "CyclicLines$Law"
  | 4 => .object "CyclicLines$World"
  | 5 => .object "CyclicLines$World"
  | 6 => .object "CyclicLines$World"
  | 7 => .array (.object "CyclicLines$World")
  | 8 => .object "CyclicLines$Text"
  | 9 => .object "CyclicLines$Period"
  | 10 => .object "CyclicLines$Ways"
  | 11 => .array .int
  | 12 => .int
  | 13 => .int
  | 14 => .boolean
  | 15 => .int
  | _ => .int
theorem zYok9 : ∀ k, k < 17 → parseFieldDescriptor (zT9 k).2.2.1 = some (zY9 k) := by decide +kernel
theorem zNm9 : ∀ a, a < 17 → ∀ b, b < 17 → a ≠ b → (zT9 a).2.1 ≠ (zT9 b).2.1 := by decide +kernel
def zT10 : u_T := fun k => match k with
  | 0 => ("CyclicLinesModel", "thrown", "I", false)
  | 1 => ("CyclicLinesModel", "m", "[I", true)
  | 2 => ("CyclicLinesModel", "kept", "[I", true)
  | 3 => ("CyclicLinesModel", "hasImage", "Z", false)
  | 4 => ("CyclicLinesModel", "aside", "[I", true)
  | 5 => ("CyclicLinesModel", "acts", "[I", true)
  | 6 => ("CyclicLinesModel", "acted", "I", false)
  | 7 => ("CyclicLinesModel", "tape", "[I", true)
  | 8 => ("CyclicLinesModel", "taped", "I", false)
  | 9 => ("CyclicLinesModel", "base", "I", false)
  | 10 => ("CyclicLinesModel", "end", "I", false)
  | 11 => ("CyclicLinesModel", "at", "I", false)
  | 12 => ("CyclicLinesModel", "fault", "I", false)
  | 13 => ("CyclicLinesModel", "deep", "I", false)
  | 14 => ("CyclicLinesModel", "fact", "[I", true)
  | 15 => ("CyclicLinesModel", "isFiller", "Z", false)
  | 16 => ("CyclicLinesModel", "isForced", "Z", false)
  | 17 => ("CyclicLinesModel", "isRepeat", "Z", false)
  | 18 => ("CyclicLinesModel", "spoils", "I", false)
  | 19 => ("CyclicLinesModel", "worth", "I", false)
  | 20 => ("CyclicLinesModel", "come", "[I", true)
  | 21 => ("CyclicLinesModel", "sent", "[I", true)
  | 22 => ("CyclicLinesModel", "over", "[I", true)
  | 23 => ("CyclicLinesModel", "lengths", "[I", true)
  | 24 => ("CyclicLinesModel", "put", "[I", true)
  | 25 => ("CyclicLinesModel", "best", "[I", true)
  | _ => ("CyclicLinesModel", "had", "[I", true)
def zY10 : Nat → FieldType := fun k => match k with
  | 0 => .int
  | 1 => .array .int
  | 2 => .array .int
  | 3 => .boolean
  | 4 => .array .int
  | 5 => .array .int
  | 6 => .int
  | 7 => .array .int
  | 8 => .int
  | 9 => .int
  | 10 => .int
  | 11 => .int
  | 12 => .int
  | 13 => .int
  | 14 => .array .int
  | 15 => .boolean
  | 16 => .boolean
  | 17 => .boolean
  | 18 => .int
  | 19 => .int
  | 20 => .array .int
  | 21 => .array .int
  | 22 => .array .int
  | 23 => .array .int
  | 24 => .array .int
  | 25 => .array .int
  | _ => .array .int
theorem zYok10 : ∀ k, k < 27 → parseFieldDescriptor (zT10 k).2.2.1 = some (zY10 k) := by decide +kernel
theorem zNm10 : ∀ a, a < 27 → ∀ b, b < 27 → a ≠ b → (zT10 a).2.1 ≠ (zT10 b).2.1 := by decide +kernel
def zCl : List vw_C := [("CyclicLines$Air", zT0, 5), ("CyclicLines$Journal", zT1, 3), ("CyclicLines$Law", zT2, 8), ("CyclicLines$Line", zT3, 19), ("CyclicLines$Period", zT4, 4), ("CyclicLines$Text", zT5, 6), ("CyclicLines$Units", zT6, 5), ("CyclicLines$Ways", zT7, 7), ("CyclicLines$World", zT8, 11), ("CyclicLines", zT9, 17), ("CyclicLinesModel", zT10, 27)]
theorem zLay0 : ∀ w ∈ u_ws "CyclicLines$Air" zT0 5, w ∈ tables_1 ∧ goodWord w = true := zby_places [138, 140, 142, 144, 146] (by decide +kernel) (by decide +kernel)
theorem zLay1 : ∀ w ∈ u_ws "CyclicLines$Journal" zT1 3, w ∈ tables_1 ∧ goodWord w = true := zby_places [267, 269, 271] (by decide +kernel) (by decide +kernel)
theorem zLay2 : ∀ w ∈ u_ws "CyclicLines$Law" zT2 8, w ∈ tables_1 ∧ goodWord w = true := zby_places [51, 53, 55, 57, 59, 61, 63, 65] (by decide +kernel) (by decide +kernel)
theorem zLay3 : ∀ w ∈ u_ws "CyclicLines$Line" zT3 19, w ∈ tables_1 ∧ goodWord w = true := zby_places [218, 220, 222, 224, 226, 228, 230, 232, 234, 236, 238, 240, 242, 244, 246, 248, 250, 252, 254] (by decide +kernel) (by decide +kernel)
theorem zLay4 : ∀ w ∈ u_ws "CyclicLines$Period" zT4 4, w ∈ tables_1 ∧ goodWord w = true := zby_places [356, 358, 360, 362] (by decide +kernel) (by decide +kernel)
theorem zLay5 : ∀ w ∈ u_ws "CyclicLines$Text" zT5 6, w ∈ tables_1 ∧ goodWord w = true := zby_places [333, 335, 337, 339, 341, 343] (by decide +kernel) (by decide +kernel)
theorem zLay6 : ∀ w ∈ u_ws "CyclicLines$Units" zT6 5, w ∈ tables_1 ∧ goodWord w = true := zby_places [109, 111, 113, 115, 117] (by decide +kernel) (by decide +kernel)
theorem zLay7 : ∀ w ∈ u_ws "CyclicLines$Ways" zT7 7, w ∈ tables_1 ∧ goodWord w = true := zby_places [378, 380, 382, 384, 386, 388, 390] (by decide +kernel) (by decide +kernel)
theorem zLay8 : ∀ w ∈ u_ws "CyclicLines$World" zT8 11, w ∈ tables_1 ∧ goodWord w = true := zby_places [294, 296, 298, 300, 302, 304, 306, 308, 310, 312, 314] (by decide +kernel) (by decide +kernel)
theorem zLay9 : ∀ w ∈ u_ws "CyclicLines" zT9 17, w ∈ tables_1 ∧ goodWord w = true := zby_places [410, 412, 414, 416, 418, 420, 422, 424, 426, 428, 430, 432, 434, 436, 438, 440, 442] (by decide +kernel) (by decide +kernel)
theorem zLay10 : ∀ w ∈ u_ws "CyclicLinesModel" zT10 27, w ∈ tables_1 ∧ goodWord w = true := zby_places [1443, 1445, 1447, 1449, 1451, 1453, 1455, 1457, 1459, 1461, 1463, 1465, 1467, 1469, 1471, 1473, 1475, 1477, 1479, 1481, 1483, 1485, 1487, 1489, 1491, 1493, 1495] (by decide +kernel) (by decide +kernel)
