/-! ## which references are set, by lists -/
def zflgL (L : List (Int × Int)) (a : Nat) : Bool := match Nat.blt (zST a) 30 with
  | true => (List.range (zNF (zST a - 10))).all (fun k => match zfd (zST a - 10) k a (zYT a) with
    | none => true
    | some _ => L.any (fun e => decide (e.1 = a) && decide (e.2 = k)))
  | false => match Nat.beq (zST a) 32 || Nat.beq (zST a) 33 with
    | true => (List.range (zYT a).toNat).all (fun i => L.any (fun e => decide (e.1 = a) && decide (e.2 = i)))
    | false => true
theorem zflgL_0 : (List.range 300).all (fun i => zflgL zGI (0 + i)) = true := by decide +kernel
theorem zflgL_3 : (List.range 300).all (fun i => zflgL zGI (300 + i)) = true := by decide +kernel
theorem zflgL_6 : (List.range 300).all (fun i => zflgL zGI (600 + i)) = true := by decide +kernel
theorem zflgL_9 : (List.range 300).all (fun i => zflgL zGI (900 + i)) = true := by decide +kernel
theorem zflgL_12 : (List.range 279).all (fun i => zflgL zGI (1200 + i)) = true := by decide +kernel
